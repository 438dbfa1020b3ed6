/-! written by wip/whole/gen.py out of the printed bytecode -/
theorem dX13_compares_0 : decode cX13_compares 0 = .ok (.aload_n 0, 1) := by decide +kernel
theorem dX13_compares_1 : decode cX13_compares 1 = .ok (.iload_n 1, 1) := by decide +kernel
theorem dX13_compares_2 : decode cX13_compares 2 = .ok (.iconst 0, 1) := by decide +kernel
theorem dX13_compares_3 : decode cX13_compares 3 = .ok (.invokevirtual 381, 3) := by decide +kernel
theorem dX13_compares_6 : decode cX13_compares 6 = .ok (.istore_n 3, 1) := by decide +kernel
theorem dX13_compares_7 : decode cX13_compares 7 = .ok (.aload_n 0, 1) := by decide +kernel
theorem dX13_compares_8 : decode cX13_compares 8 = .ok (.getfield 34, 3) := by decide +kernel
theorem dX13_compares_11 : decode cX13_compares 11 = .ok (.bipush 16, 2) := by decide +kernel
theorem dX13_compares_13 : decode cX13_compares 13 = .ok (.aload_n 0, 1) := by decide +kernel
theorem dX13_compares_14 : decode cX13_compares 14 = .ok (.iload_n 1, 1) := by decide +kernel
theorem dX13_compares_15 : decode cX13_compares 15 = .ok (.iconst 1, 1) := by decide +kernel
theorem dX13_compares_16 : decode cX13_compares 16 = .ok (.invokevirtual 381, 3) := by decide +kernel
theorem dX13_compares_19 : decode cX13_compares 19 = .ok (.imul, 1) := by decide +kernel
theorem dX13_compares_20 : decode cX13_compares 20 = .ok (.iload_n 2, 1) := by decide +kernel
theorem dX13_compares_21 : decode cX13_compares 21 = .ok (.iadd, 1) := by decide +kernel
theorem dX13_compares_22 : decode cX13_compares 22 = .ok (.daload, 1) := by decide +kernel
theorem dX13_compares_23 : decode cX13_compares 23 = .ok (.dstore 4, 2) := by decide +kernel
theorem dX13_compares_25 : decode cX13_compares 25 = .ok (.aload_n 0, 1) := by decide +kernel
theorem dX13_compares_26 : decode cX13_compares 26 = .ok (.getfield 34, 3) := by decide +kernel
theorem dX13_compares_29 : decode cX13_compares 29 = .ok (.bipush 16, 2) := by decide +kernel
theorem dX13_compares_31 : decode cX13_compares 31 = .ok (.aload_n 0, 1) := by decide +kernel
theorem dX13_compares_32 : decode cX13_compares 32 = .ok (.iload_n 1, 1) := by decide +kernel
theorem dX13_compares_33 : decode cX13_compares 33 = .ok (.iconst 2, 1) := by decide +kernel
theorem dX13_compares_34 : decode cX13_compares 34 = .ok (.invokevirtual 381, 3) := by decide +kernel
theorem dX13_compares_37 : decode cX13_compares 37 = .ok (.imul, 1) := by decide +kernel
theorem dX13_compares_38 : decode cX13_compares 38 = .ok (.iload_n 2, 1) := by decide +kernel
theorem dX13_compares_39 : decode cX13_compares 39 = .ok (.iadd, 1) := by decide +kernel
theorem dX13_compares_40 : decode cX13_compares 40 = .ok (.daload, 1) := by decide +kernel
theorem dX13_compares_41 : decode cX13_compares 41 = .ok (.dstore 6, 2) := by decide +kernel
theorem dX13_compares_43 : decode cX13_compares 43 = .ok (.iload_n 3, 1) := by decide +kernel
theorem dX13_compares_44 : decode cX13_compares 44 = .ok (.bipush 17, 2) := by decide +kernel
theorem dX13_compares_46 : decode cX13_compares 46 = .ok (.if_icmp .ne 19, 3) := by decide +kernel
theorem dX13_compares_49 : decode cX13_compares 49 = .ok (.dload 4, 2) := by decide +kernel
theorem dX13_compares_51 : decode cX13_compares 51 = .ok (.dload 6, 2) := by decide +kernel
theorem dX13_compares_53 : decode cX13_compares 53 = .ok (.dcmp .g, 1) := by decide +kernel
theorem dX13_compares_54 : decode cX13_compares 54 = .ok (.ifCond .ge 7, 3) := by decide +kernel
theorem dX13_compares_57 : decode cX13_compares 57 = .ok (.iconst 1, 1) := by decide +kernel
theorem dX13_compares_58 : decode cX13_compares 58 = .ok (.goto 42, 3) := by decide +kernel
theorem dX13_compares_61 : decode cX13_compares 61 = .ok (.iconst 0, 1) := by decide +kernel
theorem dX13_compares_62 : decode cX13_compares 62 = .ok (.goto 38, 3) := by decide +kernel
theorem dX13_compares_65 : decode cX13_compares 65 = .ok (.iload_n 3, 1) := by decide +kernel
theorem dX13_compares_66 : decode cX13_compares 66 = .ok (.bipush 18, 2) := by decide +kernel
theorem dX13_compares_68 : decode cX13_compares 68 = .ok (.if_icmp .ne 19, 3) := by decide +kernel
theorem dX13_compares_71 : decode cX13_compares 71 = .ok (.dload 4, 2) := by decide +kernel
theorem dX13_compares_73 : decode cX13_compares 73 = .ok (.dload 6, 2) := by decide +kernel
theorem dX13_compares_75 : decode cX13_compares 75 = .ok (.dcmp .l, 1) := by decide +kernel
theorem dX13_compares_76 : decode cX13_compares 76 = .ok (.ifCond .ne 7, 3) := by decide +kernel
theorem dX13_compares_79 : decode cX13_compares 79 = .ok (.iconst 1, 1) := by decide +kernel
theorem dX13_compares_80 : decode cX13_compares 80 = .ok (.goto 20, 3) := by decide +kernel
theorem dX13_compares_83 : decode cX13_compares 83 = .ok (.iconst 0, 1) := by decide +kernel
theorem dX13_compares_84 : decode cX13_compares 84 = .ok (.goto 16, 3) := by decide +kernel
theorem dX13_compares_87 : decode cX13_compares 87 = .ok (.dload 4, 2) := by decide +kernel
theorem dX13_compares_89 : decode cX13_compares 89 = .ok (.dload 4, 2) := by decide +kernel
theorem dX13_compares_91 : decode cX13_compares 91 = .ok (.dcmp .l, 1) := by decide +kernel
theorem dX13_compares_92 : decode cX13_compares 92 = .ok (.ifCond .eq 7, 3) := by decide +kernel
theorem dX13_compares_95 : decode cX13_compares 95 = .ok (.iconst 1, 1) := by decide +kernel
theorem dX13_compares_96 : decode cX13_compares 96 = .ok (.goto 4, 3) := by decide +kernel
theorem dX13_compares_99 : decode cX13_compares 99 = .ok (.iconst 0, 1) := by decide +kernel
theorem dX13_compares_100 : decode cX13_compares 100 = .ok (.istore 8, 2) := by decide +kernel
theorem dX13_compares_102 : decode cX13_compares 102 = .ok (.aload_n 0, 1) := by decide +kernel
theorem dX13_compares_103 : decode cX13_compares 103 = .ok (.getfield 31, 3) := by decide +kernel
theorem dX13_compares_106 : decode cX13_compares 106 = .ok (.iconst 3, 1) := by decide +kernel
theorem dX13_compares_107 : decode cX13_compares 107 = .ok (.aload_n 0, 1) := by decide +kernel
theorem dX13_compares_108 : decode cX13_compares 108 = .ok (.getfield 31, 3) := by decide +kernel
theorem dX13_compares_111 : decode cX13_compares 111 = .ok (.iconst 3, 1) := by decide +kernel
theorem dX13_compares_112 : decode cX13_compares 112 = .ok (.iaload, 1) := by decide +kernel
theorem dX13_compares_113 : decode cX13_compares 113 = .ok (.iconst 1, 1) := by decide +kernel
theorem dX13_compares_114 : decode cX13_compares 114 = .ok (.iload_n 2, 1) := by decide +kernel
theorem dX13_compares_115 : decode cX13_compares 115 = .ok (.ishl, 1) := by decide +kernel
theorem dX13_compares_116 : decode cX13_compares 116 = .ok (.iconst (-1), 1) := by decide +kernel
theorem dX13_compares_117 : decode cX13_compares 117 = .ok (.ixor, 1) := by decide +kernel
theorem dX13_compares_118 : decode cX13_compares 118 = .ok (.iand, 1) := by decide +kernel
theorem dX13_compares_119 : decode cX13_compares 119 = .ok (.iload 8, 2) := by decide +kernel
theorem dX13_compares_121 : decode cX13_compares 121 = .ok (.ifCond .eq 9, 3) := by decide +kernel
theorem dX13_compares_124 : decode cX13_compares 124 = .ok (.iconst 1, 1) := by decide +kernel
theorem dX13_compares_125 : decode cX13_compares 125 = .ok (.iload_n 2, 1) := by decide +kernel
theorem dX13_compares_126 : decode cX13_compares 126 = .ok (.ishl, 1) := by decide +kernel
theorem dX13_compares_127 : decode cX13_compares 127 = .ok (.goto 4, 3) := by decide +kernel
theorem dX13_compares_130 : decode cX13_compares 130 = .ok (.iconst 0, 1) := by decide +kernel
theorem dX13_compares_131 : decode cX13_compares 131 = .ok (.ior, 1) := by decide +kernel
theorem dX13_compares_132 : decode cX13_compares 132 = .ok (.iastore, 1) := by decide +kernel
theorem dX13_compares_133 : decode cX13_compares 133 = .ok (.return_, 1) := by decide +kernel
def pX13_compares_b100 (g : MT) (this : Nat) (p1 : Int32) (p2 : Int32) (s0 : Int32) (h : CT) : Option CT := lt (hR h this 19) fun r1 => (lt (hR h this 19) fun r2 => (nn r2 fun a2 => (tg g a2 20 (ix (gL g a2) 3 (if s0 = 0 then nn r1 fun a1 => (tg g a1 20 (ix (gL g a1) 3 (lt (sI h a1 (Int32.toNatClampNeg 3) (((hI h a2 (Int32.toNatClampNeg 3)) &&& (((1 : Int32) <<< (p2 &&& 31)) ^^^ (-1))) ||| 0)) fun h8 => (some h8)))) else nn r1 fun a1 => (tg g a1 20 (ix (gL g a1) 3 (lt (sI h a1 (Int32.toNatClampNeg 3) (((hI h a2 (Int32.toNatClampNeg 3)) &&& (((1 : Int32) <<< (p2 &&& 31)) ^^^ (-1))) ||| ((1 : Int32) <<< (p2 &&& 31)))) fun h11 => (some h11)))))))))
set_option maxRecDepth 10000 in
set_option maxHeartbeats 4000000 in
theorem pX13_compares_b100_ok {X : Cx} {G : Gx} {dk : Nat} {g : MT} {h0 : CT} {this : Nat} {p1 : Int32} {p2 : Int32} (Z : Zx X G cX13_compares RX13 9 dk none none g h0) (hK : 1 ≤ dk) (t0 : gT g this = 12) (s0 : Int32) (h : CT) (hf : pX13_compares_b100 g this p1 p2 s0 h = some h0) : J X g h 100 [(0, va_rf (some this)), (2, .int p2)] [.int s0] := by
  unfold pX13_compares_b100 at hf
  refine J_istore Z.1 (lv2 := [(8, .int s0), (0, va_rf (some this)), (2, .int p2)]) dX13_compares_100 (zL Z (by decide)) rfl ?_
  refine J_aload_n Z.1 1 dX13_compares_102 rfl rfl ?_
  refine J_get (v := va_rf (hR h this 19)) Z.1 dX13_compares_103 fl_X13_31 t0 rfl ?_
  refine J_tr (fun r1 er1 => ?_)
  replace hf := lt_i hf r1 er1
  refine J_iconst Z.1 (v := 3) (by decide) dX13_compares_106 ?_
  refine J_aload_n Z.1 1 dX13_compares_107 rfl rfl ?_
  refine J_get (v := va_rf (hR h this 19)) Z.1 dX13_compares_108 fl_X13_31 t0 rfl ?_
  refine J_tr (fun r2 er2 => ?_)
  replace hf := lt_i hf r2 er2
  refine J_iconst Z.1 (v := 3) (by decide) dX13_compares_111 ?_
  replace hf := nn_i hf
  obtain ⟨a2, rfl, hf⟩ := hf
  replace hf := tg_i hf
  obtain ⟨t3, hf⟩ := hf
  replace hf := ix_i hf
  obtain ⟨i4, hf⟩ := hf
  refine J_iaload Z.1 dX13_compares_112 t3 i4 ?_
  refine J_iconst Z.1 (v := 1) (by decide) dX13_compares_113 ?_
  refine J_iload_n Z.1 2 dX13_compares_114 rfl rfl ?_
  refine J_ishl Z.1 dX13_compares_115 ?_
  refine J_iconst Z.1 (v := (-1)) (by decide) dX13_compares_116 ?_
  refine J_ixor Z.1 dX13_compares_117 ?_
  refine J_iand Z.1 dX13_compares_118 ?_
  refine J_iload Z.1 0 dX13_compares_119 rfl ?_
  refine J_if_eq Z.1 130 dX13_compares_121 (by decide) (fun c5 => ?_) (fun c5 => ?_)
  · rw [if_pos c5] at hf
    refine J_iconst Z.1 (v := 0) (by decide) dX13_compares_130 ?_
    refine J_ior Z.1 dX13_compares_131 ?_
    replace hf := nn_i hf
    obtain ⟨a1, rfl, hf⟩ := hf
    replace hf := tg_i hf
    obtain ⟨t6, hf⟩ := hf
    replace hf := ix_i hf
    obtain ⟨i7, hf⟩ := hf
    refine J_iastore Z.1 dX13_compares_132 t6 i7 ?_
    refine J_th (fun h8 eh8 => ?_)
    replace hf := lt_i hf h8 eh8
    cases hf
    exact J_vret Z.1 Z.2.2.2.2.2 dX13_compares_133
  · rw [if_neg c5] at hf
    refine J_iconst Z.1 (v := 1) (by decide) dX13_compares_124 ?_
    refine J_iload_n Z.1 2 dX13_compares_125 rfl rfl ?_
    refine J_ishl Z.1 dX13_compares_126 ?_
    refine J_goto Z.1 131 dX13_compares_127 (by decide) ?_
    refine J_ior Z.1 dX13_compares_131 ?_
    replace hf := nn_i hf
    obtain ⟨a1, rfl, hf⟩ := hf
    replace hf := tg_i hf
    obtain ⟨t9, hf⟩ := hf
    replace hf := ix_i hf
    obtain ⟨i10, hf⟩ := hf
    refine J_iastore Z.1 dX13_compares_132 t9 i10 ?_
    refine J_th (fun h11 eh11 => ?_)
    replace hf := lt_i hf h11 eh11
    cases hf
    exact J_vret Z.1 Z.2.2.2.2.2 dX13_compares_133
def pX13_compares (g : MT) (h : CT) (this : Nat) (p1 : Int32) (p2 : Int32) : Option CT := tg g this 12 (bd (pX13_at g h this p1 0) fun x1 => (lt (hR h this 20) fun r3 => (bd (pX13_at g h this p1 1) fun x4 => (nn r3 fun a3 => (tg g a3 22 (ix (gL g a3) ((16 * x4) + p2) (lt (hD h a3 (Int32.toNatClampNeg ((16 * x4) + p2))) fun x8 => (lt (hR h this 20) fun r9 => (bd (pX13_at g h this p1 2) fun x10 => (nn r9 fun a9 => (tg g a9 22 (ix (gL g a9) ((16 * x10) + p2) (lt (hD h a9 (Int32.toNatClampNeg ((16 * x10) + p2))) fun x14 => (if x1 = 17 then if 0 ≤ (Op.cmpValue (FP.dcmp x8 x14) .g) then pX13_compares_b100 g this p1 p2  0 h else pX13_compares_b100 g this p1 p2  1 h else if x1 = 18 then if (Op.cmpValue (FP.dcmp x8 x14) .l) = 0 then pX13_compares_b100 g this p1 p2  1 h else pX13_compares_b100 g this p1 p2  0 h else if (Op.cmpValue (FP.dcmp x8 x8) .l) = 0 then pX13_compares_b100 g this p1 p2  0 h else pX13_compares_b100 g this p1 p2  1 h))))))))))))))
set_option maxRecDepth 10000 in
set_option maxHeartbeats 4000000 in
theorem pX13_compares_ok (G : Gx) (dk : Nat) (hK : 1 ≤ dk) {g : MT} {h h0 : CT} {this : Nat} {p1 : Int32} {p2 : Int32} (hf : pX13_compares g h this p1 p2 = some h0) : Ctr G dk yX13_compares cX13_compares 9 none [va_rf (some this), .int p1, .int p2] g h none g h0 := by
  refine Ctr.ofZ (lv := [(0, va_rf (some this)), (1, .int p1), (2, .int p2)]) (by decide +kernel) (by simp [cat_i, cat_l, cat_d, cat_rf]) rfl fun X Z => ?_
  unfold pX13_compares at hf
  replace hf := tg_i hf
  obtain ⟨t0, hf⟩ := hf
  refine J_aload_n Z.1 0 dX13_compares_0 rfl rfl ?_
  refine J_iload_n Z.1 1 dX13_compares_1 rfl rfl ?_
  refine J_iconst Z.1 (v := 0) (by decide) dX13_compares_2 ?_
  replace hf := bd_i hf
  obtain ⟨x1, q2, hf⟩ := hf
  refine J_callV (ci := 11) (as := [.int p1, .int 0]) (rest := []) (sy := [.int x1]) Z.1 dX13_compares_3 cw_X13_381 (pX13_at_ok G (dk - 1) (by omega) q2) rfl rfl t0 (zG Z) rfl (by decide) (zF Z (by omega)) (zO Z (by omega) (by decide)) (zM _) Z.2.1 Z.2.1 rfl rfl ?_
  refine J_istore_n Z.1 (lv2 := [(3, .int x1), (0, va_rf (some this)), (1, .int p1), (2, .int p2)]) dX13_compares_6 rfl (zL Z (by decide)) rfl ?_
  refine J_aload_n Z.1 1 dX13_compares_7 rfl rfl ?_
  refine J_get (v := va_rf (hR h this 20)) Z.1 dX13_compares_8 fl_X13_34 t0 rfl ?_
  refine J_tr (fun r3 er3 => ?_)
  replace hf := lt_i hf r3 er3
  refine J_bipush Z.1 (v := 16) (by decide) dX13_compares_11 ?_
  refine J_aload_n Z.1 1 dX13_compares_13 rfl rfl ?_
  refine J_iload_n Z.1 2 dX13_compares_14 rfl rfl ?_
  refine J_iconst Z.1 (v := 1) (by decide) dX13_compares_15 ?_
  replace hf := bd_i hf
  obtain ⟨x4, q5, hf⟩ := hf
  refine J_callV (ci := 11) (as := [.int p1, .int 1]) (rest := [.int 16, va_rf r3]) (sy := [.int x4, .int 16, va_rf r3]) Z.1 dX13_compares_16 cw_X13_381 (pX13_at_ok G (dk - 1) (by omega) q5) rfl rfl t0 (zG Z) rfl (by simp [cat_i, cat_l, cat_d, cat_rf]) (zF Z (by omega)) (zO Z (by omega) (by decide)) (zM _) Z.2.1 Z.2.1 rfl rfl ?_
  refine J_imul Z.1 dX13_compares_19 ?_
  refine J_iload_n Z.1 3 dX13_compares_20 rfl rfl ?_
  refine J_iadd Z.1 dX13_compares_21 ?_
  replace hf := nn_i hf
  obtain ⟨a3, rfl, hf⟩ := hf
  replace hf := tg_i hf
  obtain ⟨t6, hf⟩ := hf
  replace hf := ix_i hf
  obtain ⟨i7, hf⟩ := hf
  refine J_daload Z.1 dX13_compares_22 t6 i7 ?_
  refine J_td (fun x8 ex8 => ?_)
  replace hf := lt_i hf x8 ex8
  refine J_dstore Z.1 (lv2 := [(4, .double x8), (3, .int x1), (0, va_rf (some this)), (1, .int p1), (2, .int p2)]) dX13_compares_23 (zL Z (by decide)) rfl ?_
  refine J_aload_n Z.1 2 dX13_compares_25 rfl rfl ?_
  refine J_get (v := va_rf (hR h this 20)) Z.1 dX13_compares_26 fl_X13_34 t0 rfl ?_
  refine J_tr (fun r9 er9 => ?_)
  replace hf := lt_i hf r9 er9
  refine J_bipush Z.1 (v := 16) (by decide) dX13_compares_29 ?_
  refine J_aload_n Z.1 2 dX13_compares_31 rfl rfl ?_
  refine J_iload_n Z.1 3 dX13_compares_32 rfl rfl ?_
  refine J_iconst Z.1 (v := 2) (by decide) dX13_compares_33 ?_
  replace hf := bd_i hf
  obtain ⟨x10, q11, hf⟩ := hf
  refine J_callV (ci := 11) (as := [.int p1, .int 2]) (rest := [.int 16, va_rf r9]) (sy := [.int x10, .int 16, va_rf r9]) Z.1 dX13_compares_34 cw_X13_381 (pX13_at_ok G (dk - 1) (by omega) q11) rfl rfl t0 (zG Z) rfl (by simp [cat_i, cat_l, cat_d, cat_rf]) (zF Z (by omega)) (zO Z (by omega) (by decide)) (zM _) Z.2.1 Z.2.1 rfl rfl ?_
  refine J_imul Z.1 dX13_compares_37 ?_
  refine J_iload_n Z.1 4 dX13_compares_38 rfl rfl ?_
  refine J_iadd Z.1 dX13_compares_39 ?_
  replace hf := nn_i hf
  obtain ⟨a9, rfl, hf⟩ := hf
  replace hf := tg_i hf
  obtain ⟨t12, hf⟩ := hf
  replace hf := ix_i hf
  obtain ⟨i13, hf⟩ := hf
  refine J_daload Z.1 dX13_compares_40 t12 i13 ?_
  refine J_td (fun x14 ex14 => ?_)
  replace hf := lt_i hf x14 ex14
  refine J_dstore Z.1 (lv2 := [(6, .double x14), (4, .double x8), (3, .int x1), (0, va_rf (some this)), (1, .int p1), (2, .int p2)]) dX13_compares_41 (zL Z (by decide)) rfl ?_
  refine J_iload_n Z.1 2 dX13_compares_43 rfl rfl ?_
  refine J_bipush Z.1 (v := 17) (by decide) dX13_compares_44 ?_
  refine J_icmp_ne Z.1 65 dX13_compares_46 (by decide) (fun c15 => ?_) (fun c15 => ?_)
  · rw [if_neg c15] at hf
    refine J_iload_n Z.1 2 dX13_compares_65 rfl rfl ?_
    refine J_bipush Z.1 (v := 18) (by decide) dX13_compares_66 ?_
    refine J_icmp_ne Z.1 87 dX13_compares_68 (by decide) (fun c16 => ?_) (fun c16 => ?_)
    · rw [if_neg c16] at hf
      refine J_dload Z.1 1 dX13_compares_87 rfl ?_
      refine J_dload Z.1 1 dX13_compares_89 rfl ?_
      refine J_dcmp Z.1 dX13_compares_91 ?_
      refine J_if_eq Z.1 99 dX13_compares_92 (by decide) (fun c17 => ?_) (fun c17 => ?_)
      · rw [if_pos c17] at hf
        refine J_iconst Z.1 (v := 0) (by decide) dX13_compares_99 ?_
        refine J_lv [3, 5] rfl ?_
        exact pX13_compares_b100_ok Z hK t0  _ _ hf
      · rw [if_neg c17] at hf
        refine J_iconst Z.1 (v := 1) (by decide) dX13_compares_95 ?_
        refine J_goto Z.1 100 dX13_compares_96 (by decide) ?_
        refine J_lv [3, 5] rfl ?_
        exact pX13_compares_b100_ok Z hK t0  _ _ hf
    · rw [if_pos c16] at hf
      refine J_dload Z.1 1 dX13_compares_71 rfl ?_
      refine J_dload Z.1 0 dX13_compares_73 rfl ?_
      refine J_dcmp Z.1 dX13_compares_75 ?_
      refine J_if_ne Z.1 83 dX13_compares_76 (by decide) (fun c18 => ?_) (fun c18 => ?_)
      · rw [if_neg c18] at hf
        refine J_iconst Z.1 (v := 0) (by decide) dX13_compares_83 ?_
        refine J_goto Z.1 100 dX13_compares_84 (by decide) ?_
        refine J_lv [3, 5] rfl ?_
        exact pX13_compares_b100_ok Z hK t0  _ _ hf
      · rw [if_pos c18] at hf
        refine J_iconst Z.1 (v := 1) (by decide) dX13_compares_79 ?_
        refine J_goto Z.1 100 dX13_compares_80 (by decide) ?_
        refine J_lv [3, 5] rfl ?_
        exact pX13_compares_b100_ok Z hK t0  _ _ hf
  · rw [if_pos c15] at hf
    refine J_dload Z.1 1 dX13_compares_49 rfl ?_
    refine J_dload Z.1 0 dX13_compares_51 rfl ?_
    refine J_dcmp Z.1 dX13_compares_53 ?_
    refine J_if_ge Z.1 61 dX13_compares_54 (by decide) (fun c19 => ?_) (fun c19 => ?_)
    · rw [if_pos c19] at hf
      refine J_iconst Z.1 (v := 0) (by decide) dX13_compares_61 ?_
      refine J_goto Z.1 100 dX13_compares_62 (by decide) ?_
      refine J_lv [3, 5] rfl ?_
      exact pX13_compares_b100_ok Z hK t0  _ _ hf
    · rw [if_neg c19] at hf
      refine J_iconst Z.1 (v := 1) (by decide) dX13_compares_57 ?_
      refine J_goto Z.1 100 dX13_compares_58 (by decide) ?_
      refine J_lv [3, 5] rfl ?_
      exact pX13_compares_b100_ok Z hK t0  _ _ hf
theorem dX13_does_0 : decode cX13_does 0 = .ok (.aload_n 0, 1) := by decide +kernel
theorem dX13_does_1 : decode cX13_does 1 = .ok (.iload_n 1, 1) := by decide +kernel
theorem dX13_does_2 : decode cX13_does 2 = .ok (.iconst 0, 1) := by decide +kernel
theorem dX13_does_3 : decode cX13_does 3 = .ok (.invokevirtual 381, 3) := by decide +kernel
theorem dX13_does_6 : decode cX13_does 6 = .ok (.istore_n 3, 1) := by decide +kernel
theorem dX13_does_7 : decode cX13_does 7 = .ok (.aload_n 0, 1) := by decide +kernel
theorem dX13_does_8 : decode cX13_does 8 = .ok (.getfield 31, 3) := by decide +kernel
theorem dX13_does_11 : decode cX13_does 11 = .ok (.iconst 3, 1) := by decide +kernel
theorem dX13_does_12 : decode cX13_does 12 = .ok (.iaload, 1) := by decide +kernel
theorem dX13_does_13 : decode cX13_does 13 = .ok (.iload_n 2, 1) := by decide +kernel
theorem dX13_does_14 : decode cX13_does 14 = .ok (.invokestatic 287, 3) := by decide +kernel
theorem dX13_does_17 : decode cX13_does 17 = .ok (.istore 4, 2) := by decide +kernel
theorem dX13_does_19 : decode cX13_does 19 = .ok (.iload_n 3, 1) := by decide +kernel
theorem dX13_does_20 : decode cX13_does 20 = .ok (.invokestatic 363, 3) := by decide +kernel
theorem dX13_does_23 : decode cX13_does 23 = .ok (.ifCond .eq 38, 3) := by decide +kernel
theorem dX13_does_26 : decode cX13_does 26 = .ok (.aload_n 0, 1) := by decide +kernel
theorem dX13_does_27 : decode cX13_does 27 = .ok (.iload_n 1, 1) := by decide +kernel
theorem dX13_does_28 : decode cX13_does 28 = .ok (.bipush 6, 2) := by decide +kernel
theorem dX13_does_30 : decode cX13_does 30 = .ok (.invokevirtual 381, 3) := by decide +kernel
theorem dX13_does_33 : decode cX13_does 33 = .ok (.ifCond .eq 8, 3) := by decide +kernel
theorem dX13_does_36 : decode cX13_does 36 = .ok (.iload 4, 2) := by decide +kernel
theorem dX13_does_38 : decode cX13_does 38 = .ok (.ifCond .eq 124, 3) := by decide +kernel
theorem dX13_does_41 : decode cX13_does 41 = .ok (.aload_n 0, 1) := by decide +kernel
theorem dX13_does_42 : decode cX13_does 42 = .ok (.aload_n 0, 1) := by decide +kernel
theorem dX13_does_43 : decode cX13_does 43 = .ok (.iload_n 1, 1) := by decide +kernel
theorem dX13_does_44 : decode cX13_does 44 = .ok (.iconst 1, 1) := by decide +kernel
theorem dX13_does_45 : decode cX13_does 45 = .ok (.invokevirtual 381, 3) := by decide +kernel
theorem dX13_does_48 : decode cX13_does 48 = .ok (.iload_n 2, 1) := by decide +kernel
theorem dX13_does_49 : decode cX13_does 49 = .ok (.aload_n 0, 1) := by decide +kernel
theorem dX13_does_50 : decode cX13_does 50 = .ok (.iload_n 1, 1) := by decide +kernel
theorem dX13_does_51 : decode cX13_does 51 = .ok (.iload_n 2, 1) := by decide +kernel
theorem dX13_does_52 : decode cX13_does 52 = .ok (.invokevirtual 457, 3) := by decide +kernel
theorem dX13_does_55 : decode cX13_does 55 = .ok (.invokevirtual 461, 3) := by decide +kernel
theorem dX13_does_58 : decode cX13_does 58 = .ok (.goto 104, 3) := by decide +kernel
theorem dX13_does_61 : decode cX13_does 61 = .ok (.iload_n 3, 1) := by decide +kernel
theorem dX13_does_62 : decode cX13_does 62 = .ok (.invokestatic 360, 3) := by decide +kernel
theorem dX13_does_65 : decode cX13_does 65 = .ok (.ifCond .eq 36, 3) := by decide +kernel
theorem dX13_does_68 : decode cX13_does 68 = .ok (.aload_n 0, 1) := by decide +kernel
theorem dX13_does_69 : decode cX13_does 69 = .ok (.getfield 34, 3) := by decide +kernel
theorem dX13_does_72 : decode cX13_does 72 = .ok (.bipush 100, 2) := by decide +kernel
theorem dX13_does_74 : decode cX13_does 74 = .ok (.aload_n 0, 1) := by decide +kernel
theorem dX13_does_75 : decode cX13_does 75 = .ok (.iload_n 1, 1) := by decide +kernel
theorem dX13_does_76 : decode cX13_does 76 = .ok (.iload_n 2, 1) := by decide +kernel
theorem dX13_does_77 : decode cX13_does 77 = .ok (.invokevirtual 432, 3) := by decide +kernel
theorem dX13_does_80 : decode cX13_does 80 = .ok (.iadd, 1) := by decide +kernel
theorem dX13_does_81 : decode cX13_does 81 = .ok (.aload_n 0, 1) := by decide +kernel
theorem dX13_does_82 : decode cX13_does 82 = .ok (.getfield 34, 3) := by decide +kernel
theorem dX13_does_85 : decode cX13_does 85 = .ok (.bipush 16, 2) := by decide +kernel
theorem dX13_does_87 : decode cX13_does 87 = .ok (.aload_n 0, 1) := by decide +kernel
theorem dX13_does_88 : decode cX13_does 88 = .ok (.iload_n 1, 1) := by decide +kernel
theorem dX13_does_89 : decode cX13_does 89 = .ok (.iconst 1, 1) := by decide +kernel
theorem dX13_does_90 : decode cX13_does 90 = .ok (.invokevirtual 381, 3) := by decide +kernel
theorem dX13_does_93 : decode cX13_does 93 = .ok (.imul, 1) := by decide +kernel
theorem dX13_does_94 : decode cX13_does 94 = .ok (.iload_n 2, 1) := by decide +kernel
theorem dX13_does_95 : decode cX13_does 95 = .ok (.iadd, 1) := by decide +kernel
theorem dX13_does_96 : decode cX13_does 96 = .ok (.daload, 1) := by decide +kernel
theorem dX13_does_97 : decode cX13_does 97 = .ok (.dastore, 1) := by decide +kernel
theorem dX13_does_98 : decode cX13_does 98 = .ok (.goto 64, 3) := by decide +kernel
theorem dX13_does_101 : decode cX13_does 101 = .ok (.iload_n 3, 1) := by decide +kernel
theorem dX13_does_102 : decode cX13_does 102 = .ok (.invokestatic 354, 3) := by decide +kernel
theorem dX13_does_105 : decode cX13_does 105 = .ok (.ifCond .eq 12, 3) := by decide +kernel
theorem dX13_does_108 : decode cX13_does 108 = .ok (.aload_n 0, 1) := by decide +kernel
theorem dX13_does_109 : decode cX13_does 109 = .ok (.iload_n 1, 1) := by decide +kernel
theorem dX13_does_110 : decode cX13_does 110 = .ok (.iload_n 2, 1) := by decide +kernel
theorem dX13_does_111 : decode cX13_does 111 = .ok (.invokevirtual 465, 3) := by decide +kernel
theorem dX13_does_114 : decode cX13_does 114 = .ok (.goto 48, 3) := by decide +kernel
theorem dX13_does_117 : decode cX13_does 117 = .ok (.iload 4, 2) := by decide +kernel
theorem dX13_does_119 : decode cX13_does 119 = .ok (.ifCond .eq 43, 3) := by decide +kernel
theorem dX13_does_122 : decode cX13_does 122 = .ok (.aload_n 0, 1) := by decide +kernel
theorem dX13_does_123 : decode cX13_does 123 = .ok (.aload_n 0, 1) := by decide +kernel
theorem dX13_does_124 : decode cX13_does 124 = .ok (.iload_n 1, 1) := by decide +kernel
theorem dX13_does_125 : decode cX13_does 125 = .ok (.iconst 1, 1) := by decide +kernel
theorem dX13_does_126 : decode cX13_does 126 = .ok (.invokevirtual 381, 3) := by decide +kernel
theorem dX13_does_129 : decode cX13_does 129 = .ok (.aload_n 0, 1) := by decide +kernel
theorem dX13_does_130 : decode cX13_does 130 = .ok (.getfield 468, 3) := by decide +kernel
theorem dX13_does_133 : decode cX13_does 133 = .ok (.aload_n 0, 1) := by decide +kernel
theorem dX13_does_134 : decode cX13_does 134 = .ok (.getfield 34, 3) := by decide +kernel
theorem dX13_does_137 : decode cX13_does 137 = .ok (.bipush 16, 2) := by decide +kernel
theorem dX13_does_139 : decode cX13_does 139 = .ok (.aload_n 0, 1) := by decide +kernel
theorem dX13_does_140 : decode cX13_does 140 = .ok (.iload_n 1, 1) := by decide +kernel
theorem dX13_does_141 : decode cX13_does 141 = .ok (.iconst 2, 1) := by decide +kernel
theorem dX13_does_142 : decode cX13_does 142 = .ok (.invokevirtual 381, 3) := by decide +kernel
theorem dX13_does_145 : decode cX13_does 145 = .ok (.imul, 1) := by decide +kernel
theorem dX13_does_146 : decode cX13_does 146 = .ok (.iload_n 2, 1) := by decide +kernel
theorem dX13_does_147 : decode cX13_does 147 = .ok (.iadd, 1) := by decide +kernel
theorem dX13_does_148 : decode cX13_does 148 = .ok (.daload, 1) := by decide +kernel
theorem dX13_does_149 : decode cX13_does 149 = .ok (.invokevirtual 461, 3) := by decide +kernel
theorem dX13_does_152 : decode cX13_does 152 = .ok (.aload_n 0, 1) := by decide +kernel
theorem dX13_does_153 : decode cX13_does 153 = .ok (.dup, 1) := by decide +kernel
theorem dX13_does_154 : decode cX13_does 154 = .ok (.getfield 468, 3) := by decide +kernel
theorem dX13_does_157 : decode cX13_does 157 = .ok (.iconst 1, 1) := by decide +kernel
theorem dX13_does_158 : decode cX13_does 158 = .ok (.iadd, 1) := by decide +kernel
theorem dX13_does_159 : decode cX13_does 159 = .ok (.putfield 468, 3) := by decide +kernel
theorem dX13_does_162 : decode cX13_does 162 = .ok (.return_, 1) := by decide +kernel
def pX13_does_b41 (g : MT) (this : Nat) (p1 : Int32) (p2 : Int32) (h : CT) : Option CT := bd (pX13_at g h this p1 1) fun x1 => (bd (pX13_valueOf g h this p1 p2) fun x3 => (bd (pX13_comes g h this x1 p2 x3) fun h5 => (some h5)))
set_option maxRecDepth 10000 in
set_option maxHeartbeats 4000000 in
theorem pX13_does_b41_ok {X : Cx} {G : Gx} {dk : Nat} {g : MT} {h0 : CT} {this : Nat} {p1 : Int32} {p2 : Int32} (Z : Zx X G cX13_does RX13 5 dk none none g h0) (hK : 3 ≤ dk) (t0 : gT g this = 12) (h : CT) (hf : pX13_does_b41 g this p1 p2 h = some h0) : J X g h 41 [(0, va_rf (some this)), (1, .int p1), (2, .int p2)] [] := by
  unfold pX13_does_b41 at hf
  refine J_aload_n Z.1 0 dX13_does_41 rfl rfl ?_
  refine J_aload_n Z.1 0 dX13_does_42 rfl rfl ?_
  refine J_iload_n Z.1 1 dX13_does_43 rfl rfl ?_
  refine J_iconst Z.1 (v := 1) (by decide) dX13_does_44 ?_
  replace hf := bd_i hf
  obtain ⟨x1, q2, hf⟩ := hf
  refine J_callV (ci := 11) (as := [.int p1, .int 1]) (rest := [va_rf (some this)]) (sy := [.int x1, va_rf (some this)]) Z.1 dX13_does_45 cw_X13_381 (pX13_at_ok G (dk - 1) (by omega) q2) rfl rfl t0 (zG Z) rfl (by simp [cat_i, cat_l, cat_d, cat_rf]) (zF Z (by omega)) (zO Z (by omega) (by decide)) (zM _) Z.2.1 Z.2.1 rfl rfl ?_
  refine J_iload_n Z.1 2 dX13_does_48 rfl rfl ?_
  refine J_aload_n Z.1 0 dX13_does_49 rfl rfl ?_
  refine J_iload_n Z.1 1 dX13_does_50 rfl rfl ?_
  refine J_iload_n Z.1 2 dX13_does_51 rfl rfl ?_
  replace hf := bd_i hf
  obtain ⟨x3, q4, hf⟩ := hf
  refine J_callV (ci := 11) (as := [.int p1, .int p2]) (rest := [.int p2, .int x1, va_rf (some this)]) (sy := [.double x3, .int p2, .int x1, va_rf (some this)]) Z.1 dX13_does_52 cw_X13_457 (pX13_valueOf_ok G (dk - 1) (by omega) q4) rfl rfl t0 (zG Z) rfl (by simp [cat_i, cat_l, cat_d, cat_rf]) (zF Z (by omega)) (zO Z (by omega) (by decide)) (zM _) Z.2.1 Z.2.1 rfl rfl ?_
  replace hf := bd_i hf
  obtain ⟨h5, q6, hf⟩ := hf
  refine J_callV (ci := 11) (as := [.int x1, .int p2, .double x3]) (rest := []) (sy := []) Z.1 dX13_does_55 cw_X13_461 (pX13_comes_ok G (dk - 1) (by omega) q6) rfl rfl t0 (zG Z) rfl (by decide) (zF Z (by omega)) (zO Z (by omega) (by decide)) (zM _) Z.2.1 Z.2.1 rfl rfl ?_
  refine J_goto Z.1 162 dX13_does_58 (by decide) ?_
  cases hf
  exact J_vret Z.1 Z.2.2.2.2.2 dX13_does_162
def pX13_does (g : MT) (h : CT) (this : Nat) (p1 : Int32) (p2 : Int32) : Option CT := tg g this 12 (bd (pX13_at g h this p1 0) fun x1 => (lt (hR h this 19) fun r3 => (nn r3 fun a3 => (tg g a3 20 (ix (gL g a3) 3 (lt (pX13_has (hI h a3 (Int32.toNatClampNeg 3)) p2) fun x6 => (if (pX13_writesD x1) = 0 then if (pX13_isMemory x1) = 0 then if (pX13_isCompared x1) = 0 then if x6 = 0 then some h else bd (pX13_at g h this p1 1) fun x11 => (lt (hR h this 20) fun r13 => (bd (pX13_at g h this p1 2) fun x14 => (nn r13 fun a13 => (tg g a13 22 (ix (gL g a13) ((16 * x14) + p2) (bd (pX13_comes g h this x11 (hI h this 42) (hD h a13 (Int32.toNatClampNeg ((16 * x14) + p2)))) fun h18 => (lt (sI h18 this 42 ((hI h18 this 42) + 1)) fun h20 => (some h20)))))))) else bd (pX13_compares g h this p1 p2) fun h21 => (some h21) else lt (hR h this 20) fun r23 => (bd (pX13_placeOf g h this p1 p2) fun x24 => (lt (hR h this 20) fun r26 => (bd (pX13_at g h this p1 1) fun x27 => (nn r26 fun a26 => (tg g a26 22 (ix (gL g a26) ((16 * x27) + p2) (nn r23 fun a23 => (tg g a23 22 (ix (gL g a23) (100 + x24) (lt (sD h a23 (Int32.toNatClampNeg (100 + x24)) (hD h a26 (Int32.toNatClampNeg ((16 * x27) + p2)))) fun h33 => (some h33))))))))))) else bd (pX13_at g h this p1 6) fun x34 => (if x34 = 0 then pX13_does_b41 g this p1 p2  h else if x6 = 0 then some h else pX13_does_b41 g this p1 p2  h))))))))
set_option maxRecDepth 10000 in
set_option maxHeartbeats 4000000 in
theorem pX13_does_ok (G : Gx) (dk : Nat) (hK : 3 ≤ dk) {g : MT} {h h0 : CT} {this : Nat} {p1 : Int32} {p2 : Int32} (hf : pX13_does g h this p1 p2 = some h0) : Ctr G dk yX13_does cX13_does 5 none [va_rf (some this), .int p1, .int p2] g h none g h0 := by
  refine Ctr.ofZ (lv := [(0, va_rf (some this)), (1, .int p1), (2, .int p2)]) (by decide +kernel) (by simp [cat_i, cat_l, cat_d, cat_rf]) rfl fun X Z => ?_
  unfold pX13_does at hf
  replace hf := tg_i hf
  obtain ⟨t0, hf⟩ := hf
  refine J_aload_n Z.1 0 dX13_does_0 rfl rfl ?_
  refine J_iload_n Z.1 1 dX13_does_1 rfl rfl ?_
  refine J_iconst Z.1 (v := 0) (by decide) dX13_does_2 ?_
  replace hf := bd_i hf
  obtain ⟨x1, q2, hf⟩ := hf
  refine J_callV (ci := 11) (as := [.int p1, .int 0]) (rest := []) (sy := [.int x1]) Z.1 dX13_does_3 cw_X13_381 (pX13_at_ok G (dk - 1) (by omega) q2) rfl rfl t0 (zG Z) rfl (by decide) (zF Z (by omega)) (zO Z (by omega) (by decide)) (zM _) Z.2.1 Z.2.1 rfl rfl ?_
  refine J_istore_n Z.1 (lv2 := [(3, .int x1), (0, va_rf (some this)), (1, .int p1), (2, .int p2)]) dX13_does_6 rfl (zL Z (by decide)) rfl ?_
  refine J_aload_n Z.1 1 dX13_does_7 rfl rfl ?_
  refine J_get (v := va_rf (hR h this 19)) Z.1 dX13_does_8 fl_X13_31 t0 rfl ?_
  refine J_tr (fun r3 er3 => ?_)
  replace hf := lt_i hf r3 er3
  refine J_iconst Z.1 (v := 3) (by decide) dX13_does_11 ?_
  replace hf := nn_i hf
  obtain ⟨a3, rfl, hf⟩ := hf
  replace hf := tg_i hf
  obtain ⟨t4, hf⟩ := hf
  replace hf := ix_i hf
  obtain ⟨i5, hf⟩ := hf
  refine J_iaload Z.1 dX13_does_12 t4 i5 ?_
  refine J_iload_n Z.1 3 dX13_does_13 rfl rfl ?_
  refine J_callS (as := [.int (hI h a3 (Int32.toNatClampNeg 3)), .int p2]) (rest := []) (sy := [.int (pX13_has (hI h a3 (Int32.toNatClampNeg 3)) p2)]) Z.1 dX13_does_14 cw_X13_287 (pX13_has_ok G (dk - 1) (by omega) g h (hI h a3 (Int32.toNatClampNeg 3)) p2) (zG Z) rfl (by decide) (zF Z (by omega)) (zO Z (by omega) (by decide)) (zM _) Z.2.1 Z.2.1 rfl rfl ?_
  refine J_ti (fun x6 ex6 => ?_)
  replace hf := lt_i hf x6 ex6
  refine J_istore Z.1 (lv2 := [(4, .int x6), (3, .int x1), (0, va_rf (some this)), (1, .int p1), (2, .int p2)]) dX13_does_17 (zL Z (by decide)) rfl ?_
  refine J_iload_n Z.1 1 dX13_does_19 rfl rfl ?_
  refine J_callS (as := [.int x1]) (rest := []) (sy := [.int (pX13_writesD x1)]) Z.1 dX13_does_20 cw_X13_363 (pX13_writesD_ok G (dk - 1) (by omega) g h x1) (zG Z) rfl (by decide) (zF Z (by omega)) (zO Z (by omega) (by decide)) (zM _) Z.2.1 Z.2.1 rfl rfl ?_
  refine J_if_eq Z.1 61 dX13_does_23 (by decide) (fun c7 => ?_) (fun c7 => ?_)
  · rw [if_pos c7] at hf
    refine J_iload_n Z.1 1 dX13_does_61 rfl rfl ?_
    refine J_callS (as := [.int x1]) (rest := []) (sy := [.int (pX13_isMemory x1)]) Z.1 dX13_does_62 cw_X13_360 (pX13_isMemory_ok G (dk - 1) (by omega) g h x1) (zG Z) rfl (by decide) (zF Z (by omega)) (zO Z (by omega) (by decide)) (zM _) Z.2.1 Z.2.1 rfl rfl ?_
    refine J_if_eq Z.1 101 dX13_does_65 (by decide) (fun c8 => ?_) (fun c8 => ?_)
    · rw [if_pos c8] at hf
      refine J_iload_n Z.1 1 dX13_does_101 rfl rfl ?_
      refine J_callS (as := [.int x1]) (rest := []) (sy := [.int (pX13_isCompared x1)]) Z.1 dX13_does_102 cw_X13_354 (pX13_isCompared_ok G (dk - 1) (by omega) g h x1) (zG Z) rfl (by decide) (zF Z (by omega)) (zO Z (by omega) (by decide)) (zM _) Z.2.1 Z.2.1 rfl rfl ?_
      refine J_if_eq Z.1 117 dX13_does_105 (by decide) (fun c9 => ?_) (fun c9 => ?_)
      · rw [if_pos c9] at hf
        refine J_iload Z.1 0 dX13_does_117 rfl ?_
        refine J_if_eq Z.1 162 dX13_does_119 (by decide) (fun c10 => ?_) (fun c10 => ?_)
        · rw [if_pos c10] at hf
          cases hf
          exact J_vret Z.1 Z.2.2.2.2.2 dX13_does_162
        · rw [if_neg c10] at hf
          refine J_aload_n Z.1 2 dX13_does_122 rfl rfl ?_
          refine J_aload_n Z.1 2 dX13_does_123 rfl rfl ?_
          refine J_iload_n Z.1 3 dX13_does_124 rfl rfl ?_
          refine J_iconst Z.1 (v := 1) (by decide) dX13_does_125 ?_
          replace hf := bd_i hf
          obtain ⟨x11, q12, hf⟩ := hf
          refine J_callV (ci := 11) (as := [.int p1, .int 1]) (rest := [va_rf (some this)]) (sy := [.int x11, va_rf (some this)]) Z.1 dX13_does_126 cw_X13_381 (pX13_at_ok G (dk - 1) (by omega) q12) rfl rfl t0 (zG Z) rfl (by simp [cat_i, cat_l, cat_d, cat_rf]) (zF Z (by omega)) (zO Z (by omega) (by decide)) (zM _) Z.2.1 Z.2.1 rfl rfl ?_
          refine J_aload_n Z.1 2 dX13_does_129 rfl rfl ?_
          refine J_get (v := .int (hI h this 42)) Z.1 dX13_does_130 fl_X13_468 t0 rfl ?_
          refine J_aload_n Z.1 2 dX13_does_133 rfl rfl ?_
          refine J_get (v := va_rf (hR h this 20)) Z.1 dX13_does_134 fl_X13_34 t0 rfl ?_
          refine J_tr (fun r13 er13 => ?_)
          replace hf := lt_i hf r13 er13
          refine J_bipush Z.1 (v := 16) (by decide) dX13_does_137 ?_
          refine J_aload_n Z.1 2 dX13_does_139 rfl rfl ?_
          refine J_iload_n Z.1 3 dX13_does_140 rfl rfl ?_
          refine J_iconst Z.1 (v := 2) (by decide) dX13_does_141 ?_
          replace hf := bd_i hf
          obtain ⟨x14, q15, hf⟩ := hf
          refine J_callV (ci := 11) (as := [.int p1, .int 2]) (rest := [.int 16, va_rf r13, .int (hI h this 42), .int x11, va_rf (some this)]) (sy := [.int x14, .int 16, va_rf r13, .int (hI h this 42), .int x11, va_rf (some this)]) Z.1 dX13_does_142 cw_X13_381 (pX13_at_ok G (dk - 1) (by omega) q15) rfl rfl t0 (zG Z) rfl (by simp [cat_i, cat_l, cat_d, cat_rf]) (zF Z (by omega)) (zO Z (by omega) (by decide)) (zM _) Z.2.1 Z.2.1 rfl rfl ?_
          refine J_imul Z.1 dX13_does_145 ?_
          refine J_iload_n Z.1 4 dX13_does_146 rfl rfl ?_
          refine J_iadd Z.1 dX13_does_147 ?_
          replace hf := nn_i hf
          obtain ⟨a13, rfl, hf⟩ := hf
          replace hf := tg_i hf
          obtain ⟨t16, hf⟩ := hf
          replace hf := ix_i hf
          obtain ⟨i17, hf⟩ := hf
          refine J_daload Z.1 dX13_does_148 t16 i17 ?_
          replace hf := bd_i hf
          obtain ⟨h18, q19, hf⟩ := hf
          refine J_callV (ci := 11) (as := [.int x11, .int (hI h this 42), .double (hD h a13 (Int32.toNatClampNeg ((16 * x14) + p2)))]) (rest := []) (sy := []) Z.1 dX13_does_149 cw_X13_461 (pX13_comes_ok G (dk - 1) (by omega) q19) rfl rfl t0 (zG Z) rfl (by decide) (zF Z (by omega)) (zO Z (by omega) (by decide)) (zM _) Z.2.1 Z.2.1 rfl rfl ?_
          refine J_aload_n Z.1 2 dX13_does_152 rfl rfl ?_
          refine J_dup Z.1 dX13_does_153 rfl ?_
          refine J_get (v := .int (hI h18 this 42)) Z.1 dX13_does_154 fl_X13_468 t0 rfl ?_
          refine J_iconst Z.1 (v := 1) (by decide) dX13_does_157 ?_
          refine J_iadd Z.1 dX13_does_158 ?_
          refine J_putI Z.1 dX13_does_159 fl_X13_468 (fun q => by cases q) t0 rfl rfl (congrArg Value.int (hI_s _ _ _ _)) ?_
          refine J_th (fun h20 eh20 => ?_)
          replace hf := lt_i hf h20 eh20
          cases hf
          exact J_vret Z.1 Z.2.2.2.2.2 dX13_does_162
      · rw [if_neg c9] at hf
        refine J_aload_n Z.1 2 dX13_does_108 rfl rfl ?_
        refine J_iload_n Z.1 3 dX13_does_109 rfl rfl ?_
        refine J_iload_n Z.1 4 dX13_does_110 rfl rfl ?_
        replace hf := bd_i hf
        obtain ⟨h21, q22, hf⟩ := hf
        refine J_callV (ci := 11) (as := [.int p1, .int p2]) (rest := []) (sy := []) Z.1 dX13_does_111 cw_X13_465 (pX13_compares_ok G (dk - 1) (by omega) q22) rfl rfl t0 (zG Z) rfl (by decide) (zF Z (by omega)) (zO Z (by omega) (by decide)) (zM _) Z.2.1 Z.2.1 rfl rfl ?_
        refine J_goto Z.1 162 dX13_does_114 (by decide) ?_
        cases hf
        exact J_vret Z.1 Z.2.2.2.2.2 dX13_does_162
    · rw [if_neg c8] at hf
      refine J_aload_n Z.1 2 dX13_does_68 rfl rfl ?_
      refine J_get (v := va_rf (hR h this 20)) Z.1 dX13_does_69 fl_X13_34 t0 rfl ?_
      refine J_tr (fun r23 er23 => ?_)
      replace hf := lt_i hf r23 er23
      refine J_bipush Z.1 (v := 100) (by decide) dX13_does_72 ?_
      refine J_aload_n Z.1 2 dX13_does_74 rfl rfl ?_
      refine J_iload_n Z.1 3 dX13_does_75 rfl rfl ?_
      refine J_iload_n Z.1 4 dX13_does_76 rfl rfl ?_
      replace hf := bd_i hf
      obtain ⟨x24, q25, hf⟩ := hf
      refine J_callV (ci := 11) (as := [.int p1, .int p2]) (rest := [.int 100, va_rf r23]) (sy := [.int x24, .int 100, va_rf r23]) Z.1 dX13_does_77 cw_X13_432 (pX13_placeOf_ok G (dk - 1) (by omega) q25) rfl rfl t0 (zG Z) rfl (by simp [cat_i, cat_l, cat_d, cat_rf]) (zF Z (by omega)) (zO Z (by omega) (by decide)) (zM _) Z.2.1 Z.2.1 rfl rfl ?_
      refine J_iadd Z.1 dX13_does_80 ?_
      refine J_aload_n Z.1 2 dX13_does_81 rfl rfl ?_
      refine J_get (v := va_rf (hR h this 20)) Z.1 dX13_does_82 fl_X13_34 t0 rfl ?_
      refine J_tr (fun r26 er26 => ?_)
      replace hf := lt_i hf r26 er26
      refine J_bipush Z.1 (v := 16) (by decide) dX13_does_85 ?_
      refine J_aload_n Z.1 2 dX13_does_87 rfl rfl ?_
      refine J_iload_n Z.1 3 dX13_does_88 rfl rfl ?_
      refine J_iconst Z.1 (v := 1) (by decide) dX13_does_89 ?_
      replace hf := bd_i hf
      obtain ⟨x27, q28, hf⟩ := hf
      refine J_callV (ci := 11) (as := [.int p1, .int 1]) (rest := [.int 16, va_rf r26, .int (100 + x24), va_rf r23]) (sy := [.int x27, .int 16, va_rf r26, .int (100 + x24), va_rf r23]) Z.1 dX13_does_90 cw_X13_381 (pX13_at_ok G (dk - 1) (by omega) q28) rfl rfl t0 (zG Z) rfl (by simp [cat_i, cat_l, cat_d, cat_rf]) (zF Z (by omega)) (zO Z (by omega) (by decide)) (zM _) Z.2.1 Z.2.1 rfl rfl ?_
      refine J_imul Z.1 dX13_does_93 ?_
      refine J_iload_n Z.1 4 dX13_does_94 rfl rfl ?_
      refine J_iadd Z.1 dX13_does_95 ?_
      replace hf := nn_i hf
      obtain ⟨a26, rfl, hf⟩ := hf
      replace hf := tg_i hf
      obtain ⟨t29, hf⟩ := hf
      replace hf := ix_i hf
      obtain ⟨i30, hf⟩ := hf
      refine J_daload Z.1 dX13_does_96 t29 i30 ?_
      replace hf := nn_i hf
      obtain ⟨a23, rfl, hf⟩ := hf
      replace hf := tg_i hf
      obtain ⟨t31, hf⟩ := hf
      replace hf := ix_i hf
      obtain ⟨i32, hf⟩ := hf
      refine J_dastore Z.1 dX13_does_97 t31 i32 ?_
      refine J_th (fun h33 eh33 => ?_)
      replace hf := lt_i hf h33 eh33
      refine J_goto Z.1 162 dX13_does_98 (by decide) ?_
      cases hf
      exact J_vret Z.1 Z.2.2.2.2.2 dX13_does_162
  · rw [if_neg c7] at hf
    refine J_aload_n Z.1 2 dX13_does_26 rfl rfl ?_
    refine J_iload_n Z.1 3 dX13_does_27 rfl rfl ?_
    refine J_bipush Z.1 (v := 6) (by decide) dX13_does_28 ?_
    replace hf := bd_i hf
    obtain ⟨x34, q35, hf⟩ := hf
    refine J_callV (ci := 11) (as := [.int p1, .int 6]) (rest := []) (sy := [.int x34]) Z.1 dX13_does_30 cw_X13_381 (pX13_at_ok G (dk - 1) (by omega) q35) rfl rfl t0 (zG Z) rfl (by decide) (zF Z (by omega)) (zO Z (by omega) (by decide)) (zM _) Z.2.1 Z.2.1 rfl rfl ?_
    refine J_if_eq Z.1 41 dX13_does_33 (by decide) (fun c36 => ?_) (fun c36 => ?_)
    · rw [if_pos c36] at hf
      refine J_lv [2, 3, 4] rfl ?_
      exact pX13_does_b41_ok Z hK t0  _ hf
    · rw [if_neg c36] at hf
      refine J_iload Z.1 0 dX13_does_36 rfl ?_
      refine J_if_eq Z.1 162 dX13_does_38 (by decide) (fun c37 => ?_) (fun c37 => ?_)
      · rw [if_pos c37] at hf
        cases hf
        exact J_vret Z.1 Z.2.2.2.2.2 dX13_does_162
      · rw [if_neg c37] at hf
        refine J_lv [2, 3, 4] rfl ?_
        exact pX13_does_b41_ok Z hK t0  _ hf
theorem dX13_elements_0 : decode cX13_elements 0 = .ok (.aload_n 0, 1) := by decide +kernel
theorem dX13_elements_1 : decode cX13_elements 1 = .ok (.iload_n 1, 1) := by decide +kernel
theorem dX13_elements_2 : decode cX13_elements 2 = .ok (.iconst 0, 1) := by decide +kernel
theorem dX13_elements_3 : decode cX13_elements 3 = .ok (.invokevirtual 381, 3) := by decide +kernel
theorem dX13_elements_6 : decode cX13_elements 6 = .ok (.istore_n 3, 1) := by decide +kernel
theorem dX13_elements_7 : decode cX13_elements 7 = .ok (.iconst (-1), 1) := by decide +kernel
theorem dX13_elements_8 : decode cX13_elements 8 = .ok (.istore 4, 2) := by decide +kernel
theorem dX13_elements_10 : decode cX13_elements 10 = .ok (.aload_n 0, 1) := by decide +kernel
theorem dX13_elements_11 : decode cX13_elements 11 = .ok (.iconst 0, 1) := by decide +kernel
theorem dX13_elements_12 : decode cX13_elements 12 = .ok (.putfield 468, 3) := by decide +kernel
theorem dX13_elements_15 : decode cX13_elements 15 = .ok (.iconst 0, 1) := by decide +kernel
theorem dX13_elements_16 : decode cX13_elements 16 = .ok (.istore 5, 2) := by decide +kernel
theorem dX13_elements_18 : decode cX13_elements 18 = .ok (.iload 5, 2) := by decide +kernel
theorem dX13_elements_20 : decode cX13_elements 20 = .ok (.aload_n 0, 1) := by decide +kernel
theorem dX13_elements_21 : decode cX13_elements 21 = .ok (.getfield 31, 3) := by decide +kernel
theorem dX13_elements_24 : decode cX13_elements 24 = .ok (.iconst 0, 1) := by decide +kernel
theorem dX13_elements_25 : decode cX13_elements 25 = .ok (.iaload, 1) := by decide +kernel
theorem dX13_elements_26 : decode cX13_elements 26 = .ok (.if_icmp .ge 111, 3) := by decide +kernel
theorem dX13_elements_29 : decode cX13_elements 29 = .ok (.aload_n 0, 1) := by decide +kernel
theorem dX13_elements_30 : decode cX13_elements 30 = .ok (.iload_n 1, 1) := by decide +kernel
theorem dX13_elements_31 : decode cX13_elements 31 = .ok (.iload 5, 2) := by decide +kernel
theorem dX13_elements_33 : decode cX13_elements 33 = .ok (.invokevirtual 471, 3) := by decide +kernel
theorem dX13_elements_36 : decode cX13_elements 36 = .ok (.ifCond .ne 101, 3) := by decide +kernel
theorem dX13_elements_39 : decode cX13_elements 39 = .ok (.aload_n 0, 1) := by decide +kernel
theorem dX13_elements_40 : decode cX13_elements 40 = .ok (.iload_n 1, 1) := by decide +kernel
theorem dX13_elements_41 : decode cX13_elements 41 = .ok (.iload 5, 2) := by decide +kernel
theorem dX13_elements_43 : decode cX13_elements 43 = .ok (.iload_n 2, 1) := by decide +kernel
theorem dX13_elements_44 : decode cX13_elements 44 = .ok (.iload 4, 2) := by decide +kernel
theorem dX13_elements_46 : decode cX13_elements 46 = .ok (.invokevirtual 474, 3) := by decide +kernel
theorem dX13_elements_49 : decode cX13_elements 49 = .ok (.istore 4, 2) := by decide +kernel
theorem dX13_elements_51 : decode cX13_elements 51 = .ok (.aload_n 0, 1) := by decide +kernel
theorem dX13_elements_52 : decode cX13_elements 52 = .ok (.iload 4, 2) := by decide +kernel
theorem dX13_elements_54 : decode cX13_elements 54 = .ok (.invokevirtual 478, 3) := by decide +kernel
theorem dX13_elements_57 : decode cX13_elements 57 = .ok (.aload_n 0, 1) := by decide +kernel
theorem dX13_elements_58 : decode cX13_elements 58 = .ok (.iload_n 1, 1) := by decide +kernel
theorem dX13_elements_59 : decode cX13_elements 59 = .ok (.iload 5, 2) := by decide +kernel
theorem dX13_elements_61 : decode cX13_elements 61 = .ok (.iload 4, 2) := by decide +kernel
theorem dX13_elements_63 : decode cX13_elements 63 = .ok (.invokevirtual 481, 3) := by decide +kernel
theorem dX13_elements_66 : decode cX13_elements 66 = .ok (.aload_n 0, 1) := by decide +kernel
theorem dX13_elements_67 : decode cX13_elements 67 = .ok (.iload_n 1, 1) := by decide +kernel
theorem dX13_elements_68 : decode cX13_elements 68 = .ok (.iload 5, 2) := by decide +kernel
theorem dX13_elements_70 : decode cX13_elements 70 = .ok (.invokevirtual 484, 3) := by decide +kernel
theorem dX13_elements_73 : decode cX13_elements 73 = .ok (.iload_n 3, 1) := by decide +kernel
theorem dX13_elements_74 : decode cX13_elements 74 = .ok (.invokestatic 363, 3) := by decide +kernel
theorem dX13_elements_77 : decode cX13_elements 77 = .ok (.ifCond .ne 6, 3) := by decide +kernel
theorem dX13_elements_80 : decode cX13_elements 80 = .ok (.goto 51, 3) := by decide +kernel
theorem dX13_elements_83 : decode cX13_elements 83 = .ok (.aload_n 0, 1) := by decide +kernel
theorem dX13_elements_84 : decode cX13_elements 84 = .ok (.getfield 38, 3) := by decide +kernel
theorem dX13_elements_87 : decode cX13_elements 87 = .ok (.bipush 16, 2) := by decide +kernel
theorem dX13_elements_89 : decode cX13_elements 89 = .ok (.aload_n 0, 1) := by decide +kernel
theorem dX13_elements_90 : decode cX13_elements 90 = .ok (.iload_n 1, 1) := by decide +kernel
theorem dX13_elements_91 : decode cX13_elements 91 = .ok (.iconst 1, 1) := by decide +kernel
theorem dX13_elements_92 : decode cX13_elements 92 = .ok (.invokevirtual 381, 3) := by decide +kernel
theorem dX13_elements_95 : decode cX13_elements 95 = .ok (.imul, 1) := by decide +kernel
theorem dX13_elements_96 : decode cX13_elements 96 = .ok (.iload 5, 2) := by decide +kernel
theorem dX13_elements_98 : decode cX13_elements 98 = .ok (.iadd, 1) := by decide +kernel
theorem dX13_elements_99 : decode cX13_elements 99 = .ok (.iload 4, 2) := by decide +kernel
theorem dX13_elements_101 : decode cX13_elements 101 = .ok (.iload_n 3, 1) := by decide +kernel
theorem dX13_elements_102 : decode cX13_elements 102 = .ok (.invokestatic 395, 3) := by decide +kernel
theorem dX13_elements_105 : decode cX13_elements 105 = .ok (.invokestatic 438, 3) := by decide +kernel
theorem dX13_elements_108 : decode cX13_elements 108 = .ok (.iadd, 1) := by decide +kernel
theorem dX13_elements_109 : decode cX13_elements 109 = .ok (.iastore, 1) := by decide +kernel
theorem dX13_elements_110 : decode cX13_elements 110 = .ok (.aload_n 0, 1) := by decide +kernel
theorem dX13_elements_111 : decode cX13_elements 111 = .ok (.aload_n 0, 1) := by decide +kernel
theorem dX13_elements_112 : decode cX13_elements 112 = .ok (.getfield 38, 3) := by decide +kernel
theorem dX13_elements_115 : decode cX13_elements 115 = .ok (.bipush 16, 2) := by decide +kernel
theorem dX13_elements_117 : decode cX13_elements 117 = .ok (.aload_n 0, 1) := by decide +kernel
theorem dX13_elements_118 : decode cX13_elements 118 = .ok (.iload_n 1, 1) := by decide +kernel
theorem dX13_elements_119 : decode cX13_elements 119 = .ok (.iconst 1, 1) := by decide +kernel
theorem dX13_elements_120 : decode cX13_elements 120 = .ok (.invokevirtual 381, 3) := by decide +kernel
theorem dX13_elements_123 : decode cX13_elements 123 = .ok (.imul, 1) := by decide +kernel
theorem dX13_elements_124 : decode cX13_elements 124 = .ok (.iload 5, 2) := by decide +kernel
theorem dX13_elements_126 : decode cX13_elements 126 = .ok (.iadd, 1) := by decide +kernel
theorem dX13_elements_127 : decode cX13_elements 127 = .ok (.iaload, 1) := by decide +kernel
theorem dX13_elements_128 : decode cX13_elements 128 = .ok (.invokevirtual 478, 3) := by decide +kernel
theorem dX13_elements_131 : decode cX13_elements 131 = .ok (.iinc 5 1, 3) := by decide +kernel
theorem dX13_elements_134 : decode cX13_elements 134 = .ok (.goto (-116), 3) := by decide +kernel
theorem dX13_elements_137 : decode cX13_elements 137 = .ok (.iload 4, 2) := by decide +kernel
theorem dX13_elements_139 : decode cX13_elements 139 = .ok (.ireturn, 1) := by decide +kernel
def pX13_elements_b131 (g : MT) (this : Nat) (p1 : Int32) (p2 : Int32) (k18 : Int32 → Int32 → Int32 → CT → Option ((Int32) × CT)) (l3 : Int32) (l4 : Int32) (l5 : Int32) (h : CT) : Option ((Int32) × CT) := lt (l5 + 1) fun x1 => (k18 l3 l4 x1 h)
set_option maxRecDepth 10000 in
set_option maxHeartbeats 4000000 in
theorem pX13_elements_b131_ok {X : Cx} {G : Gx} {dk : Nat} {g : MT} {r0 : Int32} {h0 : CT} {this : Nat} {p1 : Int32} {p2 : Int32} {k18 : Int32 → Int32 → Int32 → CT → Option ((Int32) × CT)} (Z : Zx X G cX13_elements RX13 6 dk (some .int) (some (.int r0)) g h0) (hK : 4 ≤ dk) (t0 : gT g this = 12) (hk18 : ∀ (l3 : Int32) (l4 : Int32) (l5 : Int32) (h : CT), k18 l3 l4 l5 h = some (r0, h0) → J X g h 18 [(0, va_rf (some this)), (1, .int p1), (2, .int p2), (3, .int l3), (4, .int l4), (5, .int l5)] []) (l3 : Int32) (l4 : Int32) (l5 : Int32) (h : CT) (hf : pX13_elements_b131 g this p1 p2 k18 l3 l4 l5 h = some (r0, h0)) : J X g h 131 [(0, va_rf (some this)), (1, .int p1), (2, .int p2), (3, .int l3), (4, .int l4), (5, .int l5)] [] := by
  unfold pX13_elements_b131 at hf
  refine J_iinc Z.1 (v := 1) (lv2 := [(5, .int (l5 + 1)), (0, va_rf (some this)), (1, .int p1), (2, .int p2), (3, .int l3), (4, .int l4)]) 5 dX13_elements_131 rfl (by decide) (zL Z (by decide)) rfl ?_
  obtain ⟨x1, ex1⟩ : ∃ z, z = (l5 + 1) := ⟨_, rfl⟩
  replace hf := lt_i hf x1 ex1
  rw [← ex1]
  refine J_goto Z.1 18 dX13_elements_134 (by decide) ?_
  refine J_lv [1, 2, 3, 4, 5, 0] rfl ?_
  exact hk18 _ _ _ _ hf
def pX13_elements_b18 (g : MT) (this : Nat) (p1 : Int32) (p2 : Int32) (k18 : Int32 → Int32 → Int32 → CT → Option ((Int32) × CT)) (l3 : Int32) (l4 : Int32) (l5 : Int32) (h : CT) : Option ((Int32) × CT) := lt (hR h this 19) fun r1 => (nn r1 fun a1 => (tg g a1 20 (ix (gL g a1) 0 (if (hI h a1 (Int32.toNatClampNeg 0)) ≤ l5 then some (l4, h) else bd2 (pX13_isTrapped g h this p1 l5) fun x7 h5 => (if x7 = 0 then bd2 (pX13_takenAt g h5 this p1 l5 p2 l4) fun x11 h9 => (bd (pX13_lasts g h9 this x11) fun h12 => (bd (pX13_readsAll g h12 this p1 l5 x11) fun h14 => (bd (pX13_does g h14 this p1 l5) fun h16 => (if (pX13_writesD l3) = 0 then pX13_elements_b131 g this p1 p2 k18 l3 x11 l5 h16 else lt (hR h16 this 23) fun r19 => (bd (pX13_at g h16 this p1 1) fun x20 => (nn r19 fun a19 => (tg g a19 20 (ix (gL g a19) ((16 * x20) + l5) (lt (sI h16 a19 (Int32.toNatClampNeg ((16 * x20) + l5)) (x11 + (pX13_latencyOf (pX13_unitOf l3)))) fun h24 => (lt (hR h24 this 23) fun r25 => (bd (pX13_at g h24 this p1 1) fun x26 => (nn r25 fun a25 => (tg g a25 20 (ix (gL g a25) ((16 * x26) + l5) (bd (pX13_lasts g h24 this (hI h24 a25 (Int32.toNatClampNeg ((16 * x26) + l5)))) fun h30 => (pX13_elements_b131 g this p1 p2 k18 l3 x11 l5 h30)))))))))))))))) else some (l4, h5))))))
set_option maxRecDepth 10000 in
set_option maxHeartbeats 4000000 in
theorem pX13_elements_b18_ok {X : Cx} {G : Gx} {dk : Nat} {g : MT} {r0 : Int32} {h0 : CT} {this : Nat} {p1 : Int32} {p2 : Int32} {k18 : Int32 → Int32 → Int32 → CT → Option ((Int32) × CT)} (Z : Zx X G cX13_elements RX13 6 dk (some .int) (some (.int r0)) g h0) (hK : 4 ≤ dk) (t0 : gT g this = 12) (hk18 : ∀ (l3 : Int32) (l4 : Int32) (l5 : Int32) (h : CT), k18 l3 l4 l5 h = some (r0, h0) → J X g h 18 [(0, va_rf (some this)), (1, .int p1), (2, .int p2), (3, .int l3), (4, .int l4), (5, .int l5)] []) (l3 : Int32) (l4 : Int32) (l5 : Int32) (h : CT) (hf : pX13_elements_b18 g this p1 p2 k18 l3 l4 l5 h = some (r0, h0)) : J X g h 18 [(0, va_rf (some this)), (1, .int p1), (2, .int p2), (3, .int l3), (4, .int l4), (5, .int l5)] [] := by
  unfold pX13_elements_b18 at hf
  refine J_iload Z.1 5 dX13_elements_18 rfl ?_
  refine J_aload_n Z.1 0 dX13_elements_20 rfl rfl ?_
  refine J_get (v := va_rf (hR h this 19)) Z.1 dX13_elements_21 fl_X13_31 t0 rfl ?_
  refine J_tr (fun r1 er1 => ?_)
  replace hf := lt_i hf r1 er1
  refine J_iconst Z.1 (v := 0) (by decide) dX13_elements_24 ?_
  replace hf := nn_i hf
  obtain ⟨a1, rfl, hf⟩ := hf
  replace hf := tg_i hf
  obtain ⟨t2, hf⟩ := hf
  replace hf := ix_i hf
  obtain ⟨i3, hf⟩ := hf
  refine J_iaload Z.1 dX13_elements_25 t2 i3 ?_
  refine J_icmp_ge Z.1 137 dX13_elements_26 (by decide) (fun c4 => ?_) (fun c4 => ?_)
  · rw [if_pos c4] at hf
    refine J_iload Z.1 4 dX13_elements_137 rfl ?_
    cases hf
    exact J_iret Z.1 Z.2.2.2.2.2 dX13_elements_139
  · rw [if_neg c4] at hf
    refine J_aload_n Z.1 0 dX13_elements_29 rfl rfl ?_
    refine J_iload_n Z.1 1 dX13_elements_30 rfl rfl ?_
    refine J_iload Z.1 5 dX13_elements_31 rfl ?_
    replace hf := bd2_i hf
    obtain ⟨x7, h5, q6, hf⟩ := hf
    refine J_callV (ci := 11) (as := [.int p1, .int l5]) (rest := []) (sy := [.int x7]) Z.1 dX13_elements_33 cw_X13_471 (pX13_isTrapped_ok G (dk - 1) (by omega) q6) rfl rfl t0 (zG Z) rfl (by decide) (zF Z (by omega)) (zO Z (by omega) (by decide)) (zM _) Z.2.1 Z.2.1 rfl rfl ?_
    refine J_if_ne Z.1 137 dX13_elements_36 (by decide) (fun c8 => ?_) (fun c8 => ?_)
    · rw [if_neg c8] at hf
      refine J_iload Z.1 4 dX13_elements_137 rfl ?_
      cases hf
      exact J_iret Z.1 Z.2.2.2.2.2 dX13_elements_139
    · rw [if_pos c8] at hf
      refine J_aload_n Z.1 0 dX13_elements_39 rfl rfl ?_
      refine J_iload_n Z.1 1 dX13_elements_40 rfl rfl ?_
      refine J_iload Z.1 5 dX13_elements_41 rfl ?_
      refine J_iload_n Z.1 2 dX13_elements_43 rfl rfl ?_
      refine J_iload Z.1 4 dX13_elements_44 rfl ?_
      replace hf := bd2_i hf
      obtain ⟨x11, h9, q10, hf⟩ := hf
      refine J_callV (ci := 11) (as := [.int p1, .int l5, .int p2, .int l4]) (rest := []) (sy := [.int x11]) Z.1 dX13_elements_46 cw_X13_474 (pX13_takenAt_ok G (dk - 1) (by omega) q10) rfl rfl t0 (zG Z) rfl (by decide) (zF Z (by omega)) (zO Z (by omega) (by decide)) (zM _) Z.2.1 Z.2.1 rfl rfl ?_
      refine J_istore Z.1 (lv2 := [(4, .int x11), (0, va_rf (some this)), (1, .int p1), (2, .int p2), (3, .int l3), (5, .int l5)]) dX13_elements_49 (zL Z (by decide)) rfl ?_
      refine J_aload_n Z.1 1 dX13_elements_51 rfl rfl ?_
      refine J_iload Z.1 0 dX13_elements_52 rfl ?_
      replace hf := bd_i hf
      obtain ⟨h12, q13, hf⟩ := hf
      refine J_callV (ci := 11) (as := [.int x11]) (rest := []) (sy := []) Z.1 dX13_elements_54 cw_X13_478 (pX13_lasts_ok G (dk - 1) (by omega) q13) rfl rfl t0 (zG Z) rfl (by decide) (zF Z (by omega)) (zO Z (by omega) (by decide)) (zM _) Z.2.1 Z.2.1 rfl rfl ?_
      refine J_aload_n Z.1 1 dX13_elements_57 rfl rfl ?_
      refine J_iload_n Z.1 2 dX13_elements_58 rfl rfl ?_
      refine J_iload Z.1 5 dX13_elements_59 rfl ?_
      refine J_iload Z.1 0 dX13_elements_61 rfl ?_
      replace hf := bd_i hf
      obtain ⟨h14, q15, hf⟩ := hf
      refine J_callV (ci := 11) (as := [.int p1, .int l5, .int x11]) (rest := []) (sy := []) Z.1 dX13_elements_63 cw_X13_481 (pX13_readsAll_ok G (dk - 1) (by omega) q15) rfl rfl t0 (zG Z) rfl (by decide) (zF Z (by omega)) (zO Z (by omega) (by decide)) (zM _) Z.2.1 Z.2.1 rfl rfl ?_
      refine J_aload_n Z.1 1 dX13_elements_66 rfl rfl ?_
      refine J_iload_n Z.1 2 dX13_elements_67 rfl rfl ?_
      refine J_iload Z.1 5 dX13_elements_68 rfl ?_
      replace hf := bd_i hf
      obtain ⟨h16, q17, hf⟩ := hf
      refine J_callV (ci := 11) (as := [.int p1, .int l5]) (rest := []) (sy := []) Z.1 dX13_elements_70 cw_X13_484 (pX13_does_ok G (dk - 1) (by omega) q17) rfl rfl t0 (zG Z) rfl (by decide) (zF Z (by omega)) (zO Z (by omega) (by decide)) (zM _) Z.2.1 Z.2.1 rfl rfl ?_
      refine J_iload_n Z.1 4 dX13_elements_73 rfl rfl ?_
      refine J_callS (as := [.int l3]) (rest := []) (sy := [.int (pX13_writesD l3)]) Z.1 dX13_elements_74 cw_X13_363 (pX13_writesD_ok G (dk - 1) (by omega) g h16 l3) (zG Z) rfl (by decide) (zF Z (by omega)) (zO Z (by omega) (by decide)) (zM _) Z.2.1 Z.2.1 rfl rfl ?_
      refine J_if_ne Z.1 83 dX13_elements_77 (by decide) (fun c18 => ?_) (fun c18 => ?_)
      · rw [if_neg c18] at hf
        refine J_aload_n Z.1 1 dX13_elements_83 rfl rfl ?_
        refine J_get (v := va_rf (hR h16 this 23)) Z.1 dX13_elements_84 fl_X13_38 t0 rfl ?_
        refine J_tr (fun r19 er19 => ?_)
        replace hf := lt_i hf r19 er19
        refine J_bipush Z.1 (v := 16) (by decide) dX13_elements_87 ?_
        refine J_aload_n Z.1 1 dX13_elements_89 rfl rfl ?_
        refine J_iload_n Z.1 2 dX13_elements_90 rfl rfl ?_
        refine J_iconst Z.1 (v := 1) (by decide) dX13_elements_91 ?_
        replace hf := bd_i hf
        obtain ⟨x20, q21, hf⟩ := hf
        refine J_callV (ci := 11) (as := [.int p1, .int 1]) (rest := [.int 16, va_rf r19]) (sy := [.int x20, .int 16, va_rf r19]) Z.1 dX13_elements_92 cw_X13_381 (pX13_at_ok G (dk - 1) (by omega) q21) rfl rfl t0 (zG Z) rfl (by simp [cat_i, cat_l, cat_d, cat_rf]) (zF Z (by omega)) (zO Z (by omega) (by decide)) (zM _) Z.2.1 Z.2.1 rfl rfl ?_
        refine J_imul Z.1 dX13_elements_95 ?_
        refine J_iload Z.1 5 dX13_elements_96 rfl ?_
        refine J_iadd Z.1 dX13_elements_98 ?_
        refine J_iload Z.1 0 dX13_elements_99 rfl ?_
        refine J_iload_n Z.1 4 dX13_elements_101 rfl rfl ?_
        refine J_callS (as := [.int l3]) (rest := [.int x11, .int ((16 * x20) + l5), va_rf r19]) (sy := [.int (pX13_unitOf l3), .int x11, .int ((16 * x20) + l5), va_rf r19]) Z.1 dX13_elements_102 cw_X13_395 (pX13_unitOf_ok G (dk - 1) (by omega) g h16 l3) (zG Z) rfl (by simp [cat_i, cat_l, cat_d, cat_rf]) (zF Z (by omega)) (zO Z (by omega) (by decide)) (zM _) Z.2.1 Z.2.1 rfl rfl ?_
        refine J_callS (as := [.int (pX13_unitOf l3)]) (rest := [.int x11, .int ((16 * x20) + l5), va_rf r19]) (sy := [.int (pX13_latencyOf (pX13_unitOf l3)), .int x11, .int ((16 * x20) + l5), va_rf r19]) Z.1 dX13_elements_105 cw_X13_438 (pX13_latencyOf_ok G (dk - 1) (by omega) g h16 (pX13_unitOf l3)) (zG Z) rfl (by simp [cat_i, cat_l, cat_d, cat_rf]) (zF Z (by omega)) (zO Z (by omega) (by decide)) (zM _) Z.2.1 Z.2.1 rfl rfl ?_
        refine J_iadd Z.1 dX13_elements_108 ?_
        replace hf := nn_i hf
        obtain ⟨a19, rfl, hf⟩ := hf
        replace hf := tg_i hf
        obtain ⟨t22, hf⟩ := hf
        replace hf := ix_i hf
        obtain ⟨i23, hf⟩ := hf
        refine J_iastore Z.1 dX13_elements_109 t22 i23 ?_
        refine J_th (fun h24 eh24 => ?_)
        replace hf := lt_i hf h24 eh24
        refine J_aload_n Z.1 1 dX13_elements_110 rfl rfl ?_
        refine J_aload_n Z.1 1 dX13_elements_111 rfl rfl ?_
        refine J_get (v := va_rf (hR h24 this 23)) Z.1 dX13_elements_112 fl_X13_38 t0 rfl ?_
        refine J_tr (fun r25 er25 => ?_)
        replace hf := lt_i hf r25 er25
        refine J_bipush Z.1 (v := 16) (by decide) dX13_elements_115 ?_
        refine J_aload_n Z.1 1 dX13_elements_117 rfl rfl ?_
        refine J_iload_n Z.1 2 dX13_elements_118 rfl rfl ?_
        refine J_iconst Z.1 (v := 1) (by decide) dX13_elements_119 ?_
        replace hf := bd_i hf
        obtain ⟨x26, q27, hf⟩ := hf
        refine J_callV (ci := 11) (as := [.int p1, .int 1]) (rest := [.int 16, va_rf r25, va_rf (some this)]) (sy := [.int x26, .int 16, va_rf r25, va_rf (some this)]) Z.1 dX13_elements_120 cw_X13_381 (pX13_at_ok G (dk - 1) (by omega) q27) rfl rfl t0 (zG Z) rfl (by simp [cat_i, cat_l, cat_d, cat_rf]) (zF Z (by omega)) (zO Z (by omega) (by decide)) (zM _) Z.2.1 Z.2.1 rfl rfl ?_
        refine J_imul Z.1 dX13_elements_123 ?_
        refine J_iload Z.1 5 dX13_elements_124 rfl ?_
        refine J_iadd Z.1 dX13_elements_126 ?_
        replace hf := nn_i hf
        obtain ⟨a25, rfl, hf⟩ := hf
        replace hf := tg_i hf
        obtain ⟨t28, hf⟩ := hf
        replace hf := ix_i hf
        obtain ⟨i29, hf⟩ := hf
        refine J_iaload Z.1 dX13_elements_127 t28 i29 ?_
        replace hf := bd_i hf
        obtain ⟨h30, q31, hf⟩ := hf
        refine J_callV (ci := 11) (as := [.int (hI h24 a25 (Int32.toNatClampNeg ((16 * x26) + l5)))]) (rest := []) (sy := []) Z.1 dX13_elements_128 cw_X13_478 (pX13_lasts_ok G (dk - 1) (by omega) q31) rfl rfl t0 (zG Z) rfl (by decide) (zF Z (by omega)) (zO Z (by omega) (by decide)) (zM _) Z.2.1 Z.2.1 rfl rfl ?_
        refine J_lv [1, 2, 3, 4, 0, 5] rfl ?_
        exact pX13_elements_b131_ok Z hK t0 hk18 _ _ _ _ hf
      · rw [if_pos c18] at hf
        refine J_goto Z.1 131 dX13_elements_80 (by decide) ?_
        refine J_lv [1, 2, 3, 4, 0, 5] rfl ?_
        exact pX13_elements_b131_ok Z hK t0 hk18 _ _ _ _ hf
def pX13_elements_l18 (g : MT) (this : Nat) (p1 : Int32) (p2 : Int32) : Nat → Int32 → Int32 → Int32 → CT → Option ((Int32) × CT)
  | 0, _, _, _, _ => none
  | n + 1, l3, l4, l5, h => pX13_elements_b18 g this p1 p2 (pX13_elements_l18 g this p1 p2 n) l3 l4 l5 h
theorem pX13_elements_l18_ok {X : Cx} {G : Gx} {dk : Nat} {g : MT} {r0 : Int32} {h0 : CT} {this : Nat} {p1 : Int32} {p2 : Int32} (Z : Zx X G cX13_elements RX13 6 dk (some .int) (some (.int r0)) g h0) (hK : 4 ≤ dk) (t0 : gT g this = 12) : ∀ (n : Nat) (l3 : Int32) (l4 : Int32) (l5 : Int32) (h : CT), pX13_elements_l18 g this p1 p2 n l3 l4 l5 h = some (r0, h0) → J X g h 18 [(0, va_rf (some this)), (1, .int p1), (2, .int p2), (3, .int l3), (4, .int l4), (5, .int l5)] [] := by
  intro n
  induction n with
  | zero => intro l3 l4 l5 h hf; cases hf
  | succ n ih => intro l3 l4 l5 h hf; exact pX13_elements_b18_ok Z hK t0 ih l3 l4 l5 h hf
def pX13_elements (g : MT) (h : CT) (this : Nat) (p1 : Int32) (p2 : Int32) : Option ((Int32) × CT) := tg g this 12 (bd (pX13_at g h this p1 0) fun x1 => (lt (sI h this 42 0) fun h3 => (pX13_elements_l18 g this p1 p2  FUEL x1 (-1) 0 h3)))
set_option maxRecDepth 10000 in
set_option maxHeartbeats 4000000 in
theorem pX13_elements_ok (G : Gx) (dk : Nat) (hK : 4 ≤ dk) {g : MT} {h h0 : CT} {this : Nat} {p1 : Int32} {p2 : Int32} {r0 : Int32} (hf : pX13_elements g h this p1 p2 = some (r0, h0)) : Ctr G dk yX13_elements cX13_elements 6 (some .int) [va_rf (some this), .int p1, .int p2] g h (some (.int r0)) g h0 := by
  refine Ctr.ofZ (lv := [(0, va_rf (some this)), (1, .int p1), (2, .int p2)]) (by decide +kernel) (by simp [cat_i, cat_l, cat_d, cat_rf]) rfl fun X Z => ?_
  unfold pX13_elements at hf
  replace hf := tg_i hf
  obtain ⟨t0, hf⟩ := hf
  refine J_aload_n Z.1 0 dX13_elements_0 rfl rfl ?_
  refine J_iload_n Z.1 1 dX13_elements_1 rfl rfl ?_
  refine J_iconst Z.1 (v := 0) (by decide) dX13_elements_2 ?_
  replace hf := bd_i hf
  obtain ⟨x1, q2, hf⟩ := hf
  refine J_callV (ci := 11) (as := [.int p1, .int 0]) (rest := []) (sy := [.int x1]) Z.1 dX13_elements_3 cw_X13_381 (pX13_at_ok G (dk - 1) (by omega) q2) rfl rfl t0 (zG Z) rfl (by decide) (zF Z (by omega)) (zO Z (by omega) (by decide)) (zM _) Z.2.1 Z.2.1 rfl rfl ?_
  refine J_istore_n Z.1 (lv2 := [(3, .int x1), (0, va_rf (some this)), (1, .int p1), (2, .int p2)]) dX13_elements_6 rfl (zL Z (by decide)) rfl ?_
  refine J_iconst Z.1 (v := (-1)) (by decide) dX13_elements_7 ?_
  refine J_istore Z.1 (lv2 := [(4, .int (-1)), (3, .int x1), (0, va_rf (some this)), (1, .int p1), (2, .int p2)]) dX13_elements_8 (zL Z (by decide)) rfl ?_
  refine J_aload_n Z.1 2 dX13_elements_10 rfl rfl ?_
  refine J_iconst Z.1 (v := 0) (by decide) dX13_elements_11 ?_
  refine J_putI Z.1 dX13_elements_12 fl_X13_468 (fun q => by cases q) t0 rfl rfl (congrArg Value.int (hI_s _ _ _ _)) ?_
  refine J_th (fun h3 eh3 => ?_)
  replace hf := lt_i hf h3 eh3
  refine J_iconst Z.1 (v := 0) (by decide) dX13_elements_15 ?_
  refine J_istore Z.1 (lv2 := [(5, .int 0), (4, .int (-1)), (3, .int x1), (0, va_rf (some this)), (1, .int p1), (2, .int p2)]) dX13_elements_16 (zL Z (by decide)) rfl ?_
  refine J_lv [3, 4, 5, 2, 1, 0] rfl ?_
  exact pX13_elements_l18_ok Z hK t0  FUEL _ _ _ _ hf
theorem dX13_settles_0 : decode cX13_settles 0 = .ok (.aload_n 0, 1) := by decide +kernel
theorem dX13_settles_1 : decode cX13_settles 1 = .ok (.iload_n 1, 1) := by decide +kernel
theorem dX13_settles_2 : decode cX13_settles 2 = .ok (.iconst 0, 1) := by decide +kernel
theorem dX13_settles_3 : decode cX13_settles 3 = .ok (.invokevirtual 381, 3) := by decide +kernel
theorem dX13_settles_6 : decode cX13_settles 6 = .ok (.istore_n 3, 1) := by decide +kernel
theorem dX13_settles_7 : decode cX13_settles 7 = .ok (.aload_n 0, 1) := by decide +kernel
theorem dX13_settles_8 : decode cX13_settles 8 = .ok (.getfield 44, 3) := by decide +kernel
theorem dX13_settles_11 : decode cX13_settles 11 = .ok (.iload_n 3, 1) := by decide +kernel
theorem dX13_settles_12 : decode cX13_settles 12 = .ok (.invokestatic 395, 3) := by decide +kernel
theorem dX13_settles_15 : decode cX13_settles 15 = .ok (.iload_n 2, 1) := by decide +kernel
theorem dX13_settles_16 : decode cX13_settles 16 = .ok (.iconst 1, 1) := by decide +kernel
theorem dX13_settles_17 : decode cX13_settles 17 = .ok (.iadd, 1) := by decide +kernel
theorem dX13_settles_18 : decode cX13_settles 18 = .ok (.iastore, 1) := by decide +kernel
theorem dX13_settles_19 : decode cX13_settles 19 = .ok (.iload_n 3, 1) := by decide +kernel
theorem dX13_settles_20 : decode cX13_settles 20 = .ok (.invokestatic 354, 3) := by decide +kernel
theorem dX13_settles_23 : decode cX13_settles 23 = .ok (.ifCond .eq 18, 3) := by decide +kernel
theorem dX13_settles_26 : decode cX13_settles 26 = .ok (.aload_n 0, 1) := by decide +kernel
theorem dX13_settles_27 : decode cX13_settles 27 = .ok (.iload_n 2, 1) := by decide +kernel
theorem dX13_settles_28 : decode cX13_settles 28 = .ok (.iconst 3, 1) := by decide +kernel
theorem dX13_settles_29 : decode cX13_settles 29 = .ok (.iadd, 1) := by decide +kernel
theorem dX13_settles_30 : decode cX13_settles 30 = .ok (.putfield 404, 3) := by decide +kernel
theorem dX13_settles_33 : decode cX13_settles 33 = .ok (.aload_n 0, 1) := by decide +kernel
theorem dX13_settles_34 : decode cX13_settles 34 = .ok (.aload_n 0, 1) := by decide +kernel
theorem dX13_settles_35 : decode cX13_settles 35 = .ok (.getfield 404, 3) := by decide +kernel
theorem dX13_settles_38 : decode cX13_settles 38 = .ok (.invokevirtual 478, 3) := by decide +kernel
theorem dX13_settles_41 : decode cX13_settles 41 = .ok (.iload_n 3, 1) := by decide +kernel
theorem dX13_settles_42 : decode cX13_settles 42 = .ok (.bipush 21, 2) := by decide +kernel
theorem dX13_settles_44 : decode cX13_settles 44 = .ok (.if_icmp .eq 14, 3) := by decide +kernel
theorem dX13_settles_47 : decode cX13_settles 47 = .ok (.aload_n 0, 1) := by decide +kernel
theorem dX13_settles_48 : decode cX13_settles 48 = .ok (.iload_n 1, 1) := by decide +kernel
theorem dX13_settles_49 : decode cX13_settles 49 = .ok (.bipush 6, 2) := by decide +kernel
theorem dX13_settles_51 : decode cX13_settles 51 = .ok (.invokevirtual 381, 3) := by decide +kernel
theorem dX13_settles_54 : decode cX13_settles 54 = .ok (.iconst 1, 1) := by decide +kernel
theorem dX13_settles_55 : decode cX13_settles 55 = .ok (.if_icmp .ne 15, 3) := by decide +kernel
theorem dX13_settles_58 : decode cX13_settles 58 = .ok (.aload_n 0, 1) := by decide +kernel
theorem dX13_settles_59 : decode cX13_settles 59 = .ok (.aload_n 0, 1) := by decide +kernel
theorem dX13_settles_60 : decode cX13_settles 60 = .ok (.getfield 407, 3) := by decide +kernel
theorem dX13_settles_63 : decode cX13_settles 63 = .ok (.iload_n 2, 1) := by decide +kernel
theorem dX13_settles_64 : decode cX13_settles 64 = .ok (.invokestatic 178, 3) := by decide +kernel
theorem dX13_settles_67 : decode cX13_settles 67 = .ok (.putfield 407, 3) := by decide +kernel
theorem dX13_settles_70 : decode cX13_settles 70 = .ok (.iconst 0, 1) := by decide +kernel
theorem dX13_settles_71 : decode cX13_settles 71 = .ok (.istore 4, 2) := by decide +kernel
theorem dX13_settles_73 : decode cX13_settles 73 = .ok (.iload 4, 2) := by decide +kernel
theorem dX13_settles_75 : decode cX13_settles 75 = .ok (.aload_n 0, 1) := by decide +kernel
theorem dX13_settles_76 : decode cX13_settles 76 = .ok (.getfield 468, 3) := by decide +kernel
theorem dX13_settles_79 : decode cX13_settles 79 = .ok (.if_icmp .ge 36, 3) := by decide +kernel
theorem dX13_settles_82 : decode cX13_settles 82 = .ok (.aload_n 0, 1) := by decide +kernel
theorem dX13_settles_83 : decode cX13_settles 83 = .ok (.getfield 38, 3) := by decide +kernel
theorem dX13_settles_86 : decode cX13_settles 86 = .ok (.bipush 16, 2) := by decide +kernel
theorem dX13_settles_88 : decode cX13_settles 88 = .ok (.aload_n 0, 1) := by decide +kernel
theorem dX13_settles_89 : decode cX13_settles 89 = .ok (.iload_n 1, 1) := by decide +kernel
theorem dX13_settles_90 : decode cX13_settles 90 = .ok (.iconst 1, 1) := by decide +kernel
theorem dX13_settles_91 : decode cX13_settles 91 = .ok (.invokevirtual 381, 3) := by decide +kernel
theorem dX13_settles_94 : decode cX13_settles 94 = .ok (.imul, 1) := by decide +kernel
theorem dX13_settles_95 : decode cX13_settles 95 = .ok (.iload 4, 2) := by decide +kernel
theorem dX13_settles_97 : decode cX13_settles 97 = .ok (.iadd, 1) := by decide +kernel
theorem dX13_settles_98 : decode cX13_settles 98 = .ok (.iload_n 2, 1) := by decide +kernel
theorem dX13_settles_99 : decode cX13_settles 99 = .ok (.iconst 3, 1) := by decide +kernel
theorem dX13_settles_100 : decode cX13_settles 100 = .ok (.iadd, 1) := by decide +kernel
theorem dX13_settles_101 : decode cX13_settles 101 = .ok (.iastore, 1) := by decide +kernel
theorem dX13_settles_102 : decode cX13_settles 102 = .ok (.aload_n 0, 1) := by decide +kernel
theorem dX13_settles_103 : decode cX13_settles 103 = .ok (.iload_n 2, 1) := by decide +kernel
theorem dX13_settles_104 : decode cX13_settles 104 = .ok (.iconst 3, 1) := by decide +kernel
theorem dX13_settles_105 : decode cX13_settles 105 = .ok (.iadd, 1) := by decide +kernel
theorem dX13_settles_106 : decode cX13_settles 106 = .ok (.invokevirtual 478, 3) := by decide +kernel
theorem dX13_settles_109 : decode cX13_settles 109 = .ok (.iinc 4 1, 3) := by decide +kernel
theorem dX13_settles_112 : decode cX13_settles 112 = .ok (.goto (-39), 3) := by decide +kernel
theorem dX13_settles_115 : decode cX13_settles 115 = .ok (.return_, 1) := by decide +kernel
def pX13_settles_b73 (g : MT) (this : Nat) (p1 : Int32) (p2 : Int32) (k73 : Int32 → CT → Option CT) (l4 : Int32) (h : CT) : Option CT := if (hI h this 42) ≤ l4 then some h else lt (hR h this 23) fun r2 => (bd (pX13_at g h this p1 1) fun x3 => (nn r2 fun a2 => (tg g a2 20 (ix (gL g a2) ((16 * x3) + l4) (lt (sI h a2 (Int32.toNatClampNeg ((16 * x3) + l4)) (p2 + 3)) fun h7 => (bd (pX13_lasts g h7 this (p2 + 3)) fun h8 => (lt (l4 + 1) fun x10 => (k73 x10 h8))))))))
set_option maxRecDepth 10000 in
set_option maxHeartbeats 4000000 in
theorem pX13_settles_b73_ok {X : Cx} {G : Gx} {dk : Nat} {g : MT} {h0 : CT} {this : Nat} {p1 : Int32} {p2 : Int32} {k73 : Int32 → CT → Option CT} (Z : Zx X G cX13_settles RX13 5 dk none none g h0) (hK : 3 ≤ dk) (t0 : gT g this = 12) (hk73 : ∀ (l4 : Int32) (h : CT), k73 l4 h = some h0 → J X g h 73 [(0, va_rf (some this)), (1, .int p1), (2, .int p2), (4, .int l4)] []) (l4 : Int32) (h : CT) (hf : pX13_settles_b73 g this p1 p2 k73 l4 h = some h0) : J X g h 73 [(0, va_rf (some this)), (1, .int p1), (2, .int p2), (4, .int l4)] [] := by
  unfold pX13_settles_b73 at hf
  refine J_iload Z.1 3 dX13_settles_73 rfl ?_
  refine J_aload_n Z.1 0 dX13_settles_75 rfl rfl ?_
  refine J_get (v := .int (hI h this 42)) Z.1 dX13_settles_76 fl_X13_468 t0 rfl ?_
  refine J_icmp_ge Z.1 115 dX13_settles_79 (by decide) (fun c1 => ?_) (fun c1 => ?_)
  · rw [if_pos c1] at hf
    cases hf
    exact J_vret Z.1 Z.2.2.2.2.2 dX13_settles_115
  · rw [if_neg c1] at hf
    refine J_aload_n Z.1 0 dX13_settles_82 rfl rfl ?_
    refine J_get (v := va_rf (hR h this 23)) Z.1 dX13_settles_83 fl_X13_38 t0 rfl ?_
    refine J_tr (fun r2 er2 => ?_)
    replace hf := lt_i hf r2 er2
    refine J_bipush Z.1 (v := 16) (by decide) dX13_settles_86 ?_
    refine J_aload_n Z.1 0 dX13_settles_88 rfl rfl ?_
    refine J_iload_n Z.1 1 dX13_settles_89 rfl rfl ?_
    refine J_iconst Z.1 (v := 1) (by decide) dX13_settles_90 ?_
    replace hf := bd_i hf
    obtain ⟨x3, q4, hf⟩ := hf
    refine J_callV (ci := 11) (as := [.int p1, .int 1]) (rest := [.int 16, va_rf r2]) (sy := [.int x3, .int 16, va_rf r2]) Z.1 dX13_settles_91 cw_X13_381 (pX13_at_ok G (dk - 1) (by omega) q4) rfl rfl t0 (zG Z) rfl (by simp [cat_i, cat_l, cat_d, cat_rf]) (zF Z (by omega)) (zO Z (by omega) (by decide)) (zM _) Z.2.1 Z.2.1 rfl rfl ?_
    refine J_imul Z.1 dX13_settles_94 ?_
    refine J_iload Z.1 3 dX13_settles_95 rfl ?_
    refine J_iadd Z.1 dX13_settles_97 ?_
    refine J_iload_n Z.1 2 dX13_settles_98 rfl rfl ?_
    refine J_iconst Z.1 (v := 3) (by decide) dX13_settles_99 ?_
    refine J_iadd Z.1 dX13_settles_100 ?_
    replace hf := nn_i hf
    obtain ⟨a2, rfl, hf⟩ := hf
    replace hf := tg_i hf
    obtain ⟨t5, hf⟩ := hf
    replace hf := ix_i hf
    obtain ⟨i6, hf⟩ := hf
    refine J_iastore Z.1 dX13_settles_101 t5 i6 ?_
    refine J_th (fun h7 eh7 => ?_)
    replace hf := lt_i hf h7 eh7
    refine J_aload_n Z.1 0 dX13_settles_102 rfl rfl ?_
    refine J_iload_n Z.1 2 dX13_settles_103 rfl rfl ?_
    refine J_iconst Z.1 (v := 3) (by decide) dX13_settles_104 ?_
    refine J_iadd Z.1 dX13_settles_105 ?_
    replace hf := bd_i hf
    obtain ⟨h8, q9, hf⟩ := hf
    refine J_callV (ci := 11) (as := [.int (p2 + 3)]) (rest := []) (sy := []) Z.1 dX13_settles_106 cw_X13_478 (pX13_lasts_ok G (dk - 1) (by omega) q9) rfl rfl t0 (zG Z) rfl (by decide) (zF Z (by omega)) (zO Z (by omega) (by decide)) (zM _) Z.2.1 Z.2.1 rfl rfl ?_
    refine J_iinc Z.1 (v := 1) (lv2 := [(4, .int (l4 + 1)), (0, va_rf (some this)), (1, .int p1), (2, .int p2)]) 3 dX13_settles_109 rfl (by decide) (zL Z (by decide)) rfl ?_
    obtain ⟨x10, ex10⟩ : ∃ z, z = (l4 + 1) := ⟨_, rfl⟩
    replace hf := lt_i hf x10 ex10
    rw [← ex10]
    refine J_goto Z.1 73 dX13_settles_112 (by decide) ?_
    refine J_lv [1, 2, 3, 0] rfl ?_
    exact hk73 _ _ hf
def pX13_settles_l73 (g : MT) (this : Nat) (p1 : Int32) (p2 : Int32) : Nat → Int32 → CT → Option CT
  | 0, _, _ => none
  | n + 1, l4, h => pX13_settles_b73 g this p1 p2 (pX13_settles_l73 g this p1 p2 n) l4 h
theorem pX13_settles_l73_ok {X : Cx} {G : Gx} {dk : Nat} {g : MT} {h0 : CT} {this : Nat} {p1 : Int32} {p2 : Int32} (Z : Zx X G cX13_settles RX13 5 dk none none g h0) (hK : 3 ≤ dk) (t0 : gT g this = 12) : ∀ (n : Nat) (l4 : Int32) (h : CT), pX13_settles_l73 g this p1 p2 n l4 h = some h0 → J X g h 73 [(0, va_rf (some this)), (1, .int p1), (2, .int p2), (4, .int l4)] [] := by
  intro n
  induction n with
  | zero => intro l4 h hf; cases hf
  | succ n ih => intro l4 h hf; exact pX13_settles_b73_ok Z hK t0 ih l4 h hf
def pX13_settles_b70 (g : MT) (this : Nat) (p1 : Int32) (p2 : Int32) (h : CT) : Option CT := pX13_settles_l73 g this p1 p2  FUEL 0 h
set_option maxRecDepth 10000 in
set_option maxHeartbeats 4000000 in
theorem pX13_settles_b70_ok {X : Cx} {G : Gx} {dk : Nat} {g : MT} {h0 : CT} {this : Nat} {p1 : Int32} {p2 : Int32} (Z : Zx X G cX13_settles RX13 5 dk none none g h0) (hK : 3 ≤ dk) (t0 : gT g this = 12) (h : CT) (hf : pX13_settles_b70 g this p1 p2 h = some h0) : J X g h 70 [(0, va_rf (some this)), (1, .int p1), (2, .int p2)] [] := by
  unfold pX13_settles_b70 at hf
  refine J_iconst Z.1 (v := 0) (by decide) dX13_settles_70 ?_
  refine J_istore Z.1 (lv2 := [(4, .int 0), (0, va_rf (some this)), (1, .int p1), (2, .int p2)]) dX13_settles_71 (zL Z (by decide)) rfl ?_
  refine J_lv [1, 2, 3, 0] rfl ?_
  exact pX13_settles_l73_ok Z hK t0  FUEL _ _ hf
def pX13_settles_b58 (g : MT) (this : Nat) (p1 : Int32) (p2 : Int32) (h : CT) : Option CT := lt (sI h this 30 (pJ9_max_7cf53 (hI h this 30) p2)) fun h1 => (pX13_settles_b70 g this p1 p2  h1)
set_option maxRecDepth 10000 in
set_option maxHeartbeats 4000000 in
theorem pX13_settles_b58_ok {X : Cx} {G : Gx} {dk : Nat} {g : MT} {h0 : CT} {this : Nat} {p1 : Int32} {p2 : Int32} (Z : Zx X G cX13_settles RX13 5 dk none none g h0) (hK : 3 ≤ dk) (t0 : gT g this = 12) (h : CT) (hf : pX13_settles_b58 g this p1 p2 h = some h0) : J X g h 58 [(0, va_rf (some this)), (1, .int p1), (2, .int p2)] [] := by
  unfold pX13_settles_b58 at hf
  refine J_aload_n Z.1 0 dX13_settles_58 rfl rfl ?_
  refine J_aload_n Z.1 0 dX13_settles_59 rfl rfl ?_
  refine J_get (v := .int (hI h this 30)) Z.1 dX13_settles_60 fl_X13_407 t0 rfl ?_
  refine J_iload_n Z.1 2 dX13_settles_63 rfl rfl ?_
  refine J_callS (as := [.int (hI h this 30), .int p2]) (rest := [va_rf (some this)]) (sy := [.int (pJ9_max_7cf53 (hI h this 30) p2), va_rf (some this)]) Z.1 dX13_settles_64 cw_X13_178 (pJ9_max_7cf53_ok G (dk - 1) (by omega) g h (hI h this 30) p2) (zG Z) rfl (by simp [cat_i, cat_l, cat_d, cat_rf]) (zF Z (by omega)) (zO Z (by omega) (by decide)) (zM _) Z.2.1 Z.2.1 rfl rfl ?_
  refine J_putI Z.1 dX13_settles_67 fl_X13_407 (fun q => by cases q) t0 rfl rfl (congrArg Value.int (hI_s _ _ _ _)) ?_
  refine J_th (fun h1 eh1 => ?_)
  replace hf := lt_i hf h1 eh1
  exact pX13_settles_b70_ok Z hK t0  _ hf
def pX13_settles_b41 (g : MT) (this : Nat) (p1 : Int32) (p2 : Int32) (l3 : Int32) (h : CT) : Option CT := if l3 = 21 then pX13_settles_b58 g this p1 p2  h else bd (pX13_at g h this p1 6) fun x2 => (if x2 = 1 then pX13_settles_b58 g this p1 p2  h else pX13_settles_b70 g this p1 p2  h)
set_option maxRecDepth 10000 in
set_option maxHeartbeats 4000000 in
theorem pX13_settles_b41_ok {X : Cx} {G : Gx} {dk : Nat} {g : MT} {h0 : CT} {this : Nat} {p1 : Int32} {p2 : Int32} (Z : Zx X G cX13_settles RX13 5 dk none none g h0) (hK : 3 ≤ dk) (t0 : gT g this = 12) (l3 : Int32) (h : CT) (hf : pX13_settles_b41 g this p1 p2 l3 h = some h0) : J X g h 41 [(0, va_rf (some this)), (1, .int p1), (2, .int p2), (3, .int l3)] [] := by
  unfold pX13_settles_b41 at hf
  refine J_iload_n Z.1 3 dX13_settles_41 rfl rfl ?_
  refine J_bipush Z.1 (v := 21) (by decide) dX13_settles_42 ?_
  refine J_icmp_eq Z.1 58 dX13_settles_44 (by decide) (fun c1 => ?_) (fun c1 => ?_)
  · rw [if_pos c1] at hf
    refine J_lv [0, 1, 2] rfl ?_
    exact pX13_settles_b58_ok Z hK t0  _ hf
  · rw [if_neg c1] at hf
    refine J_aload_n Z.1 0 dX13_settles_47 rfl rfl ?_
    refine J_iload_n Z.1 1 dX13_settles_48 rfl rfl ?_
    refine J_bipush Z.1 (v := 6) (by decide) dX13_settles_49 ?_
    replace hf := bd_i hf
    obtain ⟨x2, q3, hf⟩ := hf
    refine J_callV (ci := 11) (as := [.int p1, .int 6]) (rest := []) (sy := [.int x2]) Z.1 dX13_settles_51 cw_X13_381 (pX13_at_ok G (dk - 1) (by omega) q3) rfl rfl t0 (zG Z) rfl (by decide) (zF Z (by omega)) (zO Z (by omega) (by decide)) (zM _) Z.2.1 Z.2.1 rfl rfl ?_
    refine J_iconst Z.1 (v := 1) (by decide) dX13_settles_54 ?_
    refine J_icmp_ne Z.1 70 dX13_settles_55 (by decide) (fun c4 => ?_) (fun c4 => ?_)
    · rw [if_neg c4] at hf
      refine J_lv [0, 1, 2] rfl ?_
      exact pX13_settles_b70_ok Z hK t0  _ hf
    · rw [if_pos c4] at hf
      refine J_lv [0, 1, 2] rfl ?_
      exact pX13_settles_b58_ok Z hK t0  _ hf
def pX13_settles (g : MT) (h : CT) (this : Nat) (p1 : Int32) (p2 : Int32) : Option CT := tg g this 12 (bd (pX13_at g h this p1 0) fun x1 => (lt (hR h this 25) fun r3 => (nn r3 fun a3 => (tg g a3 20 (ix (gL g a3) (pX13_unitOf x1) (lt (sI h a3 (Int32.toNatClampNeg (pX13_unitOf x1)) (p2 + 1)) fun h6 => (if (pX13_isCompared x1) = 0 then pX13_settles_b41 g this p1 p2  x1 h6 else lt (sI h6 this 29 (p2 + 3)) fun h8 => (bd (pX13_lasts g h8 this (hI h8 this 29)) fun h9 => (pX13_settles_b41 g this p1 p2  x1 h9)))))))))
set_option maxRecDepth 10000 in
set_option maxHeartbeats 4000000 in
theorem pX13_settles_ok (G : Gx) (dk : Nat) (hK : 3 ≤ dk) {g : MT} {h h0 : CT} {this : Nat} {p1 : Int32} {p2 : Int32} (hf : pX13_settles g h this p1 p2 = some h0) : Ctr G dk yX13_settles cX13_settles 5 none [va_rf (some this), .int p1, .int p2] g h none g h0 := by
  refine Ctr.ofZ (lv := [(0, va_rf (some this)), (1, .int p1), (2, .int p2)]) (by decide +kernel) (by simp [cat_i, cat_l, cat_d, cat_rf]) rfl fun X Z => ?_
  unfold pX13_settles at hf
  replace hf := tg_i hf
  obtain ⟨t0, hf⟩ := hf
  refine J_aload_n Z.1 0 dX13_settles_0 rfl rfl ?_
  refine J_iload_n Z.1 1 dX13_settles_1 rfl rfl ?_
  refine J_iconst Z.1 (v := 0) (by decide) dX13_settles_2 ?_
  replace hf := bd_i hf
  obtain ⟨x1, q2, hf⟩ := hf
  refine J_callV (ci := 11) (as := [.int p1, .int 0]) (rest := []) (sy := [.int x1]) Z.1 dX13_settles_3 cw_X13_381 (pX13_at_ok G (dk - 1) (by omega) q2) rfl rfl t0 (zG Z) rfl (by decide) (zF Z (by omega)) (zO Z (by omega) (by decide)) (zM _) Z.2.1 Z.2.1 rfl rfl ?_
  refine J_istore_n Z.1 (lv2 := [(3, .int x1), (0, va_rf (some this)), (1, .int p1), (2, .int p2)]) dX13_settles_6 rfl (zL Z (by decide)) rfl ?_
  refine J_aload_n Z.1 1 dX13_settles_7 rfl rfl ?_
  refine J_get (v := va_rf (hR h this 25)) Z.1 dX13_settles_8 fl_X13_44 t0 rfl ?_
  refine J_tr (fun r3 er3 => ?_)
  replace hf := lt_i hf r3 er3
  refine J_iload_n Z.1 0 dX13_settles_11 rfl rfl ?_
  refine J_callS (as := [.int x1]) (rest := [va_rf r3]) (sy := [.int (pX13_unitOf x1), va_rf r3]) Z.1 dX13_settles_12 cw_X13_395 (pX13_unitOf_ok G (dk - 1) (by omega) g h x1) (zG Z) rfl (by simp [cat_i, cat_l, cat_d, cat_rf]) (zF Z (by omega)) (zO Z (by omega) (by decide)) (zM _) Z.2.1 Z.2.1 rfl rfl ?_
  refine J_iload_n Z.1 3 dX13_settles_15 rfl rfl ?_
  refine J_iconst Z.1 (v := 1) (by decide) dX13_settles_16 ?_
  refine J_iadd Z.1 dX13_settles_17 ?_
  replace hf := nn_i hf
  obtain ⟨a3, rfl, hf⟩ := hf
  replace hf := tg_i hf
  obtain ⟨t4, hf⟩ := hf
  replace hf := ix_i hf
  obtain ⟨i5, hf⟩ := hf
  refine J_iastore Z.1 dX13_settles_18 t4 i5 ?_
  refine J_th (fun h6 eh6 => ?_)
  replace hf := lt_i hf h6 eh6
  refine J_iload_n Z.1 0 dX13_settles_19 rfl rfl ?_
  refine J_callS (as := [.int x1]) (rest := []) (sy := [.int (pX13_isCompared x1)]) Z.1 dX13_settles_20 cw_X13_354 (pX13_isCompared_ok G (dk - 1) (by omega) g h6 x1) (zG Z) rfl (by decide) (zF Z (by omega)) (zO Z (by omega) (by decide)) (zM _) Z.2.1 Z.2.1 rfl rfl ?_
  refine J_if_eq Z.1 41 dX13_settles_23 (by decide) (fun c7 => ?_) (fun c7 => ?_)
  · rw [if_pos c7] at hf
    refine J_lv [1, 2, 3, 0] rfl ?_
    exact pX13_settles_b41_ok Z hK t0  _ _ hf
  · rw [if_neg c7] at hf
    refine J_aload_n Z.1 1 dX13_settles_26 rfl rfl ?_
    refine J_iload_n Z.1 3 dX13_settles_27 rfl rfl ?_
    refine J_iconst Z.1 (v := 3) (by decide) dX13_settles_28 ?_
    refine J_iadd Z.1 dX13_settles_29 ?_
    refine J_putI Z.1 dX13_settles_30 fl_X13_404 (fun q => by cases q) t0 rfl rfl (congrArg Value.int (hI_s _ _ _ _)) ?_
    refine J_th (fun h8 eh8 => ?_)
    replace hf := lt_i hf h8 eh8
    refine J_aload_n Z.1 1 dX13_settles_33 rfl rfl ?_
    refine J_aload_n Z.1 1 dX13_settles_34 rfl rfl ?_
    refine J_get (v := .int (hI h8 this 29)) Z.1 dX13_settles_35 fl_X13_404 t0 rfl ?_
    replace hf := bd_i hf
    obtain ⟨h9, q10, hf⟩ := hf
    refine J_callV (ci := 11) (as := [.int (hI h8 this 29)]) (rest := []) (sy := []) Z.1 dX13_settles_38 cw_X13_478 (pX13_lasts_ok G (dk - 1) (by omega) q10) rfl rfl t0 (zG Z) rfl (by decide) (zF Z (by omega)) (zO Z (by omega) (by decide)) (zM _) Z.2.1 Z.2.1 rfl rfl ?_
    refine J_lv [1, 2, 3, 0] rfl ?_
    exact pX13_settles_b41_ok Z hK t0  _ _ hf
theorem dX13_bits_0 : decode cX13_bits 0 = .ok (.iconst 0, 1) := by decide +kernel
theorem dX13_bits_1 : decode cX13_bits 1 = .ok (.istore_n 1, 1) := by decide +kernel
theorem dX13_bits_2 : decode cX13_bits 2 = .ok (.iconst 0, 1) := by decide +kernel
theorem dX13_bits_3 : decode cX13_bits 3 = .ok (.istore_n 2, 1) := by decide +kernel
theorem dX13_bits_4 : decode cX13_bits 4 = .ok (.iload_n 2, 1) := by decide +kernel
theorem dX13_bits_5 : decode cX13_bits 5 = .ok (.aload_n 0, 1) := by decide +kernel
theorem dX13_bits_6 : decode cX13_bits 6 = .ok (.getfield 31, 3) := by decide +kernel
theorem dX13_bits_9 : decode cX13_bits 9 = .ok (.iconst 0, 1) := by decide +kernel
theorem dX13_bits_10 : decode cX13_bits 10 = .ok (.iaload, 1) := by decide +kernel
theorem dX13_bits_11 : decode cX13_bits 11 = .ok (.if_icmp .ge 22, 3) := by decide +kernel
theorem dX13_bits_14 : decode cX13_bits 14 = .ok (.iload_n 1, 1) := by decide +kernel
theorem dX13_bits_15 : decode cX13_bits 15 = .ok (.aload_n 0, 1) := by decide +kernel
theorem dX13_bits_16 : decode cX13_bits 16 = .ok (.getfield 31, 3) := by decide +kernel
theorem dX13_bits_19 : decode cX13_bits 19 = .ok (.iconst 3, 1) := by decide +kernel
theorem dX13_bits_20 : decode cX13_bits 20 = .ok (.iaload, 1) := by decide +kernel
theorem dX13_bits_21 : decode cX13_bits 21 = .ok (.iload_n 2, 1) := by decide +kernel
theorem dX13_bits_22 : decode cX13_bits 22 = .ok (.ishr, 1) := by decide +kernel
theorem dX13_bits_23 : decode cX13_bits 23 = .ok (.iconst 1, 1) := by decide +kernel
theorem dX13_bits_24 : decode cX13_bits 24 = .ok (.iand, 1) := by decide +kernel
theorem dX13_bits_25 : decode cX13_bits 25 = .ok (.iadd, 1) := by decide +kernel
theorem dX13_bits_26 : decode cX13_bits 26 = .ok (.istore_n 1, 1) := by decide +kernel
theorem dX13_bits_27 : decode cX13_bits 27 = .ok (.iinc 2 1, 3) := by decide +kernel
theorem dX13_bits_30 : decode cX13_bits 30 = .ok (.goto (-26), 3) := by decide +kernel
theorem dX13_bits_33 : decode cX13_bits 33 = .ok (.iload_n 1, 1) := by decide +kernel
theorem dX13_bits_34 : decode cX13_bits 34 = .ok (.ireturn, 1) := by decide +kernel
def pX13_bits_b4 (g : MT) (h : CT) (this : Nat) (k4 : Int32 → Int32 → Option Int32) (l1 : Int32) (l2 : Int32) : Option Int32 := lt (hR h this 19) fun r1 => (nn r1 fun a1 => (tg g a1 20 (ix (gL g a1) 0 (if (hI h a1 (Int32.toNatClampNeg 0)) ≤ l2 then some l1 else lt (hR h this 19) fun r5 => (nn r5 fun a5 => (tg g a5 20 (ix (gL g a5) 3 (lt (l1 + (((hI h a5 (Int32.toNatClampNeg 3)) >>> (l2 &&& 31)) &&& 1)) fun x8 => (lt (l2 + 1) fun x9 => (k4 x8 x9))))))))))
set_option maxRecDepth 10000 in
set_option maxHeartbeats 4000000 in
theorem pX13_bits_b4_ok {X : Cx} {G : Gx} {dk : Nat} {g : MT} {r0 : Int32} {h : CT} {this : Nat} {k4 : Int32 → Int32 → Option Int32} (Z : Zx X G cX13_bits RX13 3 dk (some .int) (some (.int r0)) g h) (hK : 0 ≤ dk) (t0 : gT g this = 12) (hk4 : ∀ (l1 : Int32) (l2 : Int32), k4 l1 l2 = some r0 → J X g h 4 [(0, va_rf (some this)), (1, .int l1), (2, .int l2)] []) (l1 : Int32) (l2 : Int32) (hf : pX13_bits_b4 g h this k4 l1 l2 = some r0) : J X g h 4 [(0, va_rf (some this)), (1, .int l1), (2, .int l2)] [] := by
  unfold pX13_bits_b4 at hf
  refine J_iload_n Z.1 2 dX13_bits_4 rfl rfl ?_
  refine J_aload_n Z.1 0 dX13_bits_5 rfl rfl ?_
  refine J_get (v := va_rf (hR h this 19)) Z.1 dX13_bits_6 fl_X13_31 t0 rfl ?_
  refine J_tr (fun r1 er1 => ?_)
  replace hf := lt_i hf r1 er1
  refine J_iconst Z.1 (v := 0) (by decide) dX13_bits_9 ?_
  replace hf := nn_i hf
  obtain ⟨a1, rfl, hf⟩ := hf
  replace hf := tg_i hf
  obtain ⟨t2, hf⟩ := hf
  replace hf := ix_i hf
  obtain ⟨i3, hf⟩ := hf
  refine J_iaload Z.1 dX13_bits_10 t2 i3 ?_
  refine J_icmp_ge Z.1 33 dX13_bits_11 (by decide) (fun c4 => ?_) (fun c4 => ?_)
  · rw [if_pos c4] at hf
    refine J_iload_n Z.1 1 dX13_bits_33 rfl rfl ?_
    cases hf
    exact J_iret Z.1 Z.2.2.2.2.2 dX13_bits_34
  · rw [if_neg c4] at hf
    refine J_iload_n Z.1 1 dX13_bits_14 rfl rfl ?_
    refine J_aload_n Z.1 0 dX13_bits_15 rfl rfl ?_
    refine J_get (v := va_rf (hR h this 19)) Z.1 dX13_bits_16 fl_X13_31 t0 rfl ?_
    refine J_tr (fun r5 er5 => ?_)
    replace hf := lt_i hf r5 er5
    refine J_iconst Z.1 (v := 3) (by decide) dX13_bits_19 ?_
    replace hf := nn_i hf
    obtain ⟨a5, rfl, hf⟩ := hf
    replace hf := tg_i hf
    obtain ⟨t6, hf⟩ := hf
    replace hf := ix_i hf
    obtain ⟨i7, hf⟩ := hf
    refine J_iaload Z.1 dX13_bits_20 t6 i7 ?_
    refine J_iload_n Z.1 2 dX13_bits_21 rfl rfl ?_
    refine J_ishr Z.1 dX13_bits_22 ?_
    refine J_iconst Z.1 (v := 1) (by decide) dX13_bits_23 ?_
    refine J_iand Z.1 dX13_bits_24 ?_
    refine J_iadd Z.1 dX13_bits_25 ?_
    refine J_ti (fun x8 ex8 => ?_)
    replace hf := lt_i hf x8 ex8
    refine J_istore_n Z.1 (lv2 := [(1, .int x8), (0, va_rf (some this)), (2, .int l2)]) dX13_bits_26 rfl (zL Z (by decide)) rfl ?_
    refine J_iinc Z.1 (v := 1) (lv2 := [(2, .int (l2 + 1)), (1, .int x8), (0, va_rf (some this))]) 2 dX13_bits_27 rfl (by decide) (zL Z (by decide)) rfl ?_
    obtain ⟨x9, ex9⟩ : ∃ z, z = (l2 + 1) := ⟨_, rfl⟩
    replace hf := lt_i hf x9 ex9
    rw [← ex9]
    refine J_goto Z.1 4 dX13_bits_30 (by decide) ?_
    refine J_lv [2, 1, 0] rfl ?_
    exact hk4 _ _ hf
def pX13_bits_l4 (g : MT) (h : CT) (this : Nat) : Nat → Int32 → Int32 → Option Int32
  | 0, _, _ => none
  | n + 1, l1, l2 => pX13_bits_b4 g h this (pX13_bits_l4 g h this n) l1 l2
theorem pX13_bits_l4_ok {X : Cx} {G : Gx} {dk : Nat} {g : MT} {r0 : Int32} {h : CT} {this : Nat} (Z : Zx X G cX13_bits RX13 3 dk (some .int) (some (.int r0)) g h) (hK : 0 ≤ dk) (t0 : gT g this = 12) : ∀ (n : Nat) (l1 : Int32) (l2 : Int32), pX13_bits_l4 g h this n l1 l2 = some r0 → J X g h 4 [(0, va_rf (some this)), (1, .int l1), (2, .int l2)] [] := by
  intro n
  induction n with
  | zero => intro l1 l2 hf; cases hf
  | succ n ih => intro l1 l2 hf; exact pX13_bits_b4_ok Z hK t0 ih l1 l2 hf
def pX13_bits (g : MT) (h : CT) (this : Nat) : Option Int32 := tg g this 12 (pX13_bits_l4 g h this  FUEL 0 0)
set_option maxRecDepth 10000 in
set_option maxHeartbeats 4000000 in
theorem pX13_bits_ok (G : Gx) (dk : Nat) (hK : 0 ≤ dk) {g : MT} {h : CT} {this : Nat} {r0 : Int32} (hf : pX13_bits g h this = some r0) : Ctr G dk yX13_bits cX13_bits 3 (some .int) [va_rf (some this)] g h (some (.int r0)) g h := by
  refine Ctr.ofZ (lv := [(0, va_rf (some this))]) (by decide +kernel) (by simp [cat_i, cat_l, cat_d, cat_rf]) rfl fun X Z => ?_
  unfold pX13_bits at hf
  replace hf := tg_i hf
  obtain ⟨t0, hf⟩ := hf
  refine J_iconst Z.1 (v := 0) (by decide) dX13_bits_0 ?_
  refine J_istore_n Z.1 (lv2 := [(1, .int 0), (0, va_rf (some this))]) dX13_bits_1 rfl (zL Z (by decide)) rfl ?_
  refine J_iconst Z.1 (v := 0) (by decide) dX13_bits_2 ?_
  refine J_istore_n Z.1 (lv2 := [(2, .int 0), (1, .int 0), (0, va_rf (some this))]) dX13_bits_3 rfl (zL Z (by decide)) rfl ?_
  refine J_lv [2, 1, 0] rfl ?_
  exact pX13_bits_l4_ok Z hK t0  FUEL _ _ hf
theorem dX13_folded_0 : decode cX13_folded 0 = .ok (.iconst 0, 1) := by decide +kernel
theorem dX13_folded_1 : decode cX13_folded 1 = .ok (.istore 4, 2) := by decide +kernel
theorem dX13_folded_3 : decode cX13_folded 3 = .ok (.iload 4, 2) := by decide +kernel
theorem dX13_folded_5 : decode cX13_folded 5 = .ok (.iload_n 2, 1) := by decide +kernel
theorem dX13_folded_6 : decode cX13_folded 6 = .ok (.if_icmp .ge 28, 3) := by decide +kernel
theorem dX13_folded_9 : decode cX13_folded 9 = .ok (.aload_n 0, 1) := by decide +kernel
theorem dX13_folded_10 : decode cX13_folded 10 = .ok (.getfield 56, 3) := by decide +kernel
theorem dX13_folded_13 : decode cX13_folded 13 = .ok (.iload 4, 2) := by decide +kernel
theorem dX13_folded_15 : decode cX13_folded 15 = .ok (.aload_n 0, 1) := by decide +kernel
theorem dX13_folded_16 : decode cX13_folded 16 = .ok (.getfield 34, 3) := by decide +kernel
theorem dX13_folded_19 : decode cX13_folded 19 = .ok (.bipush 16, 2) := by decide +kernel
theorem dX13_folded_21 : decode cX13_folded 21 = .ok (.iload_n 1, 1) := by decide +kernel
theorem dX13_folded_22 : decode cX13_folded 22 = .ok (.imul, 1) := by decide +kernel
theorem dX13_folded_23 : decode cX13_folded 23 = .ok (.iload 4, 2) := by decide +kernel
theorem dX13_folded_25 : decode cX13_folded 25 = .ok (.iadd, 1) := by decide +kernel
theorem dX13_folded_26 : decode cX13_folded 26 = .ok (.daload, 1) := by decide +kernel
theorem dX13_folded_27 : decode cX13_folded 27 = .ok (.dastore, 1) := by decide +kernel
theorem dX13_folded_28 : decode cX13_folded 28 = .ok (.iinc 4 1, 3) := by decide +kernel
theorem dX13_folded_31 : decode cX13_folded 31 = .ok (.goto (-28), 3) := by decide +kernel
theorem dX13_folded_34 : decode cX13_folded 34 = .ok (.aload_n 0, 1) := by decide +kernel
theorem dX13_folded_35 : decode cX13_folded 35 = .ok (.iconst 0, 1) := by decide +kernel
theorem dX13_folded_36 : decode cX13_folded 36 = .ok (.putfield 487, 3) := by decide +kernel
theorem dX13_folded_39 : decode cX13_folded 39 = .ok (.iload_n 2, 1) := by decide +kernel
theorem dX13_folded_40 : decode cX13_folded 40 = .ok (.istore 4, 2) := by decide +kernel
theorem dX13_folded_42 : decode cX13_folded 42 = .ok (.iload 4, 2) := by decide +kernel
theorem dX13_folded_44 : decode cX13_folded 44 = .ok (.iconst 1, 1) := by decide +kernel
theorem dX13_folded_45 : decode cX13_folded 45 = .ok (.if_icmp .le 99, 3) := by decide +kernel
theorem dX13_folded_48 : decode cX13_folded 48 = .ok (.iload 4, 2) := by decide +kernel
theorem dX13_folded_50 : decode cX13_folded 50 = .ok (.iconst 1, 1) := by decide +kernel
theorem dX13_folded_51 : decode cX13_folded 51 = .ok (.iadd, 1) := by decide +kernel
theorem dX13_folded_52 : decode cX13_folded 52 = .ok (.iconst 2, 1) := by decide +kernel
theorem dX13_folded_53 : decode cX13_folded 53 = .ok (.idiv, 1) := by decide +kernel
theorem dX13_folded_54 : decode cX13_folded 54 = .ok (.istore 5, 2) := by decide +kernel
theorem dX13_folded_56 : decode cX13_folded 56 = .ok (.iconst 0, 1) := by decide +kernel
theorem dX13_folded_57 : decode cX13_folded 57 = .ok (.istore 6, 2) := by decide +kernel
theorem dX13_folded_59 : decode cX13_folded 59 = .ok (.iload 6, 2) := by decide +kernel
theorem dX13_folded_61 : decode cX13_folded 61 = .ok (.iload 4, 2) := by decide +kernel
theorem dX13_folded_63 : decode cX13_folded 63 = .ok (.iload 5, 2) := by decide +kernel
theorem dX13_folded_65 : decode cX13_folded 65 = .ok (.isub, 1) := by decide +kernel
theorem dX13_folded_66 : decode cX13_folded 66 = .ok (.if_icmp .ge 61, 3) := by decide +kernel
theorem dX13_folded_69 : decode cX13_folded 69 = .ok (.aload_n 0, 1) := by decide +kernel
theorem dX13_folded_70 : decode cX13_folded 70 = .ok (.getfield 56, 3) := by decide +kernel
theorem dX13_folded_73 : decode cX13_folded 73 = .ok (.iload 6, 2) := by decide +kernel
theorem dX13_folded_75 : decode cX13_folded 75 = .ok (.iload_n 3, 1) := by decide +kernel
theorem dX13_folded_76 : decode cX13_folded 76 = .ok (.ifCond .eq 24, 3) := by decide +kernel
theorem dX13_folded_79 : decode cX13_folded 79 = .ok (.aload_n 0, 1) := by decide +kernel
theorem dX13_folded_80 : decode cX13_folded 80 = .ok (.getfield 56, 3) := by decide +kernel
theorem dX13_folded_83 : decode cX13_folded 83 = .ok (.iload 6, 2) := by decide +kernel
theorem dX13_folded_85 : decode cX13_folded 85 = .ok (.daload, 1) := by decide +kernel
theorem dX13_folded_86 : decode cX13_folded 86 = .ok (.aload_n 0, 1) := by decide +kernel
theorem dX13_folded_87 : decode cX13_folded 87 = .ok (.getfield 56, 3) := by decide +kernel
theorem dX13_folded_90 : decode cX13_folded 90 = .ok (.iload 6, 2) := by decide +kernel
theorem dX13_folded_92 : decode cX13_folded 92 = .ok (.iload 5, 2) := by decide +kernel
theorem dX13_folded_94 : decode cX13_folded 94 = .ok (.iadd, 1) := by decide +kernel
theorem dX13_folded_95 : decode cX13_folded 95 = .ok (.daload, 1) := by decide +kernel
theorem dX13_folded_96 : decode cX13_folded 96 = .ok (.dadd, 1) := by decide +kernel
theorem dX13_folded_97 : decode cX13_folded 97 = .ok (.goto 23, 3) := by decide +kernel
theorem dX13_folded_100 : decode cX13_folded 100 = .ok (.aload_n 0, 1) := by decide +kernel
theorem dX13_folded_101 : decode cX13_folded 101 = .ok (.getfield 56, 3) := by decide +kernel
theorem dX13_folded_104 : decode cX13_folded 104 = .ok (.iload 6, 2) := by decide +kernel
theorem dX13_folded_106 : decode cX13_folded 106 = .ok (.daload, 1) := by decide +kernel
theorem dX13_folded_107 : decode cX13_folded 107 = .ok (.aload_n 0, 1) := by decide +kernel
theorem dX13_folded_108 : decode cX13_folded 108 = .ok (.getfield 56, 3) := by decide +kernel
theorem dX13_folded_111 : decode cX13_folded 111 = .ok (.iload 6, 2) := by decide +kernel
theorem dX13_folded_113 : decode cX13_folded 113 = .ok (.iload 5, 2) := by decide +kernel
theorem dX13_folded_115 : decode cX13_folded 115 = .ok (.iadd, 1) := by decide +kernel
theorem dX13_folded_116 : decode cX13_folded 116 = .ok (.daload, 1) := by decide +kernel
theorem dX13_folded_117 : decode cX13_folded 117 = .ok (.invokestatic 451, 3) := by decide +kernel
theorem dX13_folded_120 : decode cX13_folded 120 = .ok (.dastore, 1) := by decide +kernel
theorem dX13_folded_121 : decode cX13_folded 121 = .ok (.iinc 6 1, 3) := by decide +kernel
theorem dX13_folded_124 : decode cX13_folded 124 = .ok (.goto (-65), 3) := by decide +kernel
theorem dX13_folded_127 : decode cX13_folded 127 = .ok (.iload 5, 2) := by decide +kernel
theorem dX13_folded_129 : decode cX13_folded 129 = .ok (.istore 4, 2) := by decide +kernel
theorem dX13_folded_131 : decode cX13_folded 131 = .ok (.aload_n 0, 1) := by decide +kernel
theorem dX13_folded_132 : decode cX13_folded 132 = .ok (.dup, 1) := by decide +kernel
theorem dX13_folded_133 : decode cX13_folded 133 = .ok (.getfield 487, 3) := by decide +kernel
theorem dX13_folded_136 : decode cX13_folded 136 = .ok (.iconst 1, 1) := by decide +kernel
theorem dX13_folded_137 : decode cX13_folded 137 = .ok (.iadd, 1) := by decide +kernel
theorem dX13_folded_138 : decode cX13_folded 138 = .ok (.putfield 487, 3) := by decide +kernel
theorem dX13_folded_141 : decode cX13_folded 141 = .ok (.goto (-99), 3) := by decide +kernel
theorem dX13_folded_144 : decode cX13_folded 144 = .ok (.iload_n 2, 1) := by decide +kernel
theorem dX13_folded_145 : decode cX13_folded 145 = .ok (.ifCond .le 10, 3) := by decide +kernel
theorem dX13_folded_148 : decode cX13_folded 148 = .ok (.aload_n 0, 1) := by decide +kernel
theorem dX13_folded_149 : decode cX13_folded 149 = .ok (.getfield 56, 3) := by decide +kernel
theorem dX13_folded_152 : decode cX13_folded 152 = .ok (.iconst 0, 1) := by decide +kernel
theorem dX13_folded_153 : decode cX13_folded 153 = .ok (.daload, 1) := by decide +kernel
theorem dX13_folded_154 : decode cX13_folded 154 = .ok (.dreturn, 1) := by decide +kernel
theorem dX13_folded_155 : decode cX13_folded 155 = .ok (.iload_n 3, 1) := by decide +kernel
theorem dX13_folded_156 : decode cX13_folded 156 = .ok (.ifCond .eq 7, 3) := by decide +kernel
theorem dX13_folded_159 : decode cX13_folded 159 = .ok (.dconst 0, 1) := by decide +kernel
theorem dX13_folded_160 : decode cX13_folded 160 = .ok (.goto 7, 3) := by decide +kernel
theorem dX13_folded_163 : decode cX13_folded 163 = .ok (.iconst 4, 1) := by decide +kernel
theorem dX13_folded_164 : decode cX13_folded 164 = .ok (.invokestatic 315, 3) := by decide +kernel
theorem dX13_folded_167 : decode cX13_folded 167 = .ok (.dreturn, 1) := by decide +kernel
def pX13_folded_b120 (g : MT) (this : Nat) (p1 : Int32) (p2 : Int32) (p3 : Int32) (k42 : Int32 → CT → Option ((UInt64) × CT)) (k59 : Int32 → Int32 → Int32 → CT → Option ((UInt64) × CT)) (l4 : Int32) (l5 : Int32) (l6 : Int32) (r80 : Option Nat) (s1 : Int32) (s2 : UInt64) (h : CT) : Option ((UInt64) × CT) := nn r80 fun a80 => (tg g a80 22 (ix (gL g a80) s1 (lt (sD h a80 (Int32.toNatClampNeg s1) s2) fun h3 => (lt (l6 + 1) fun x4 => (k59 l4 l5 x4 h3)))))
set_option maxRecDepth 10000 in
set_option maxHeartbeats 4000000 in
theorem pX13_folded_b120_ok {X : Cx} {G : Gx} {dk : Nat} {g : MT} {r0 : UInt64} {h0 : CT} {this : Nat} {p1 : Int32} {p2 : Int32} {p3 : Int32} {k42 : Int32 → CT → Option ((UInt64) × CT)} {k59 : Int32 → Int32 → Int32 → CT → Option ((UInt64) × CT)} (Z : Zx X G cX13_folded RX13 7 dk (some .double) (some (.double r0)) g h0) (hK : 1 ≤ dk) (t0 : gT g this = 12) (hk42 : ∀ (l4 : Int32) (h : CT), k42 l4 h = some (r0, h0) → J X g h 42 [(0, va_rf (some this)), (2, .int p2), (3, .int p3), (4, .int l4)] []) (hk59 : ∀ (l4 : Int32) (l5 : Int32) (l6 : Int32) (h : CT), k59 l4 l5 l6 h = some (r0, h0) → J X g h 59 [(0, va_rf (some this)), (2, .int p2), (3, .int p3), (4, .int l4), (5, .int l5), (6, .int l6)] []) (l4 : Int32) (l5 : Int32) (l6 : Int32) (r80 : Option Nat) (s1 : Int32) (s2 : UInt64) (h : CT) (hf : pX13_folded_b120 g this p1 p2 p3 k42 k59 l4 l5 l6 r80 s1 s2 h = some (r0, h0)) : J X g h 120 [(0, va_rf (some this)), (2, .int p2), (3, .int p3), (4, .int l4), (5, .int l5), (6, .int l6)] [.double s2, .int s1, va_rf r80] := by
  unfold pX13_folded_b120 at hf
  replace hf := nn_i hf
  obtain ⟨a80, rfl, hf⟩ := hf
  replace hf := tg_i hf
  obtain ⟨t1, hf⟩ := hf
  replace hf := ix_i hf
  obtain ⟨i2, hf⟩ := hf
  refine J_dastore Z.1 dX13_folded_120 t1 i2 ?_
  refine J_th (fun h3 eh3 => ?_)
  replace hf := lt_i hf h3 eh3
  refine J_iinc Z.1 (v := 1) (lv2 := [(6, .int (l6 + 1)), (0, va_rf (some this)), (2, .int p2), (3, .int p3), (4, .int l4), (5, .int l5)]) 5 dX13_folded_121 rfl (by decide) (zL Z (by decide)) rfl ?_
  obtain ⟨x4, ex4⟩ : ∃ z, z = (l6 + 1) := ⟨_, rfl⟩
  replace hf := lt_i hf x4 ex4
  rw [← ex4]
  refine J_goto Z.1 59 dX13_folded_124 (by decide) ?_
  refine J_lv [1, 2, 3, 4, 5, 0] rfl ?_
  exact hk59 _ _ _ _ hf
def pX13_folded_b59 (g : MT) (this : Nat) (p1 : Int32) (p2 : Int32) (p3 : Int32) (k42 : Int32 → CT → Option ((UInt64) × CT)) (k59 : Int32 → Int32 → Int32 → CT → Option ((UInt64) × CT)) (l4 : Int32) (l5 : Int32) (l6 : Int32) (h : CT) : Option ((UInt64) × CT) := if (l4 - l5) ≤ l6 then lt (sI h this 44 ((hI h this 44) + 1)) fun h2 => (k42 l5 h2) else lt (hR h this 43) fun r3 => (if p3 = 0 then lt (hR h this 43) fun r5 => (nn r5 fun a5 => (tg g a5 22 (ix (gL g a5) l6 (lt (hR h this 43) fun r8 => (nn r8 fun a8 => (tg g a8 22 (ix (gL g a8) (l6 + l5) (pX13_folded_b120 g this p1 p2 p3 k42 k59 l4 l5 l6 r3 l6 (fmax (hD h a5 (Int32.toNatClampNeg l6)) (hD h a8 (Int32.toNatClampNeg (l6 + l5)))) h)))))))) else lt (hR h this 43) fun r11 => (nn r11 fun a11 => (tg g a11 22 (ix (gL g a11) l6 (lt (hR h this 43) fun r14 => (nn r14 fun a14 => (tg g a14 22 (ix (gL g a14) (l6 + l5) (pX13_folded_b120 g this p1 p2 p3 k42 k59 l4 l5 l6 r3 l6 (fadd (hD h a11 (Int32.toNatClampNeg l6)) (hD h a14 (Int32.toNatClampNeg (l6 + l5)))) h)))))))))
set_option maxRecDepth 10000 in
set_option maxHeartbeats 4000000 in
theorem pX13_folded_b59_ok {X : Cx} {G : Gx} {dk : Nat} {g : MT} {r0 : UInt64} {h0 : CT} {this : Nat} {p1 : Int32} {p2 : Int32} {p3 : Int32} {k42 : Int32 → CT → Option ((UInt64) × CT)} {k59 : Int32 → Int32 → Int32 → CT → Option ((UInt64) × CT)} (Z : Zx X G cX13_folded RX13 7 dk (some .double) (some (.double r0)) g h0) (hK : 1 ≤ dk) (t0 : gT g this = 12) (hk42 : ∀ (l4 : Int32) (h : CT), k42 l4 h = some (r0, h0) → J X g h 42 [(0, va_rf (some this)), (2, .int p2), (3, .int p3), (4, .int l4)] []) (hk59 : ∀ (l4 : Int32) (l5 : Int32) (l6 : Int32) (h : CT), k59 l4 l5 l6 h = some (r0, h0) → J X g h 59 [(0, va_rf (some this)), (2, .int p2), (3, .int p3), (4, .int l4), (5, .int l5), (6, .int l6)] []) (l4 : Int32) (l5 : Int32) (l6 : Int32) (h : CT) (hf : pX13_folded_b59 g this p1 p2 p3 k42 k59 l4 l5 l6 h = some (r0, h0)) : J X g h 59 [(0, va_rf (some this)), (2, .int p2), (3, .int p3), (4, .int l4), (5, .int l5), (6, .int l6)] [] := by
  unfold pX13_folded_b59 at hf
  refine J_iload Z.1 5 dX13_folded_59 rfl ?_
  refine J_iload Z.1 3 dX13_folded_61 rfl ?_
  refine J_iload Z.1 4 dX13_folded_63 rfl ?_
  refine J_isub Z.1 dX13_folded_65 ?_
  refine J_icmp_ge Z.1 127 dX13_folded_66 (by decide) (fun c1 => ?_) (fun c1 => ?_)
  · rw [if_pos c1] at hf
    refine J_iload Z.1 4 dX13_folded_127 rfl ?_
    refine J_istore Z.1 (lv2 := [(4, .int l5), (0, va_rf (some this)), (2, .int p2), (3, .int p3), (5, .int l5), (6, .int l6)]) dX13_folded_129 (zL Z (by decide)) rfl ?_
    refine J_aload_n Z.1 1 dX13_folded_131 rfl rfl ?_
    refine J_dup Z.1 dX13_folded_132 rfl ?_
    refine J_get (v := .int (hI h this 44)) Z.1 dX13_folded_133 fl_X13_487 t0 rfl ?_
    refine J_iconst Z.1 (v := 1) (by decide) dX13_folded_136 ?_
    refine J_iadd Z.1 dX13_folded_137 ?_
    refine J_putI Z.1 dX13_folded_138 fl_X13_487 (fun q => by cases q) t0 rfl rfl (congrArg Value.int (hI_s _ _ _ _)) ?_
    refine J_th (fun h2 eh2 => ?_)
    replace hf := lt_i hf h2 eh2
    refine J_goto Z.1 42 dX13_folded_141 (by decide) ?_
    refine J_lv [1, 2, 3, 0] rfl ?_
    exact hk42 _ _ hf
  · rw [if_neg c1] at hf
    refine J_aload_n Z.1 0 dX13_folded_69 rfl rfl ?_
    refine J_get (v := va_rf (hR h this 43)) Z.1 dX13_folded_70 fl_X13_56 t0 rfl ?_
    refine J_tr (fun r3 er3 => ?_)
    replace hf := lt_i hf r3 er3
    refine J_iload Z.1 5 dX13_folded_73 rfl ?_
    refine J_iload_n Z.1 2 dX13_folded_75 rfl rfl ?_
    refine J_if_eq Z.1 100 dX13_folded_76 (by decide) (fun c4 => ?_) (fun c4 => ?_)
    · rw [if_pos c4] at hf
      refine J_aload_n Z.1 0 dX13_folded_100 rfl rfl ?_
      refine J_get (v := va_rf (hR h this 43)) Z.1 dX13_folded_101 fl_X13_56 t0 rfl ?_
      refine J_tr (fun r5 er5 => ?_)
      replace hf := lt_i hf r5 er5
      refine J_iload Z.1 5 dX13_folded_104 rfl ?_
      replace hf := nn_i hf
      obtain ⟨a5, rfl, hf⟩ := hf
      replace hf := tg_i hf
      obtain ⟨t6, hf⟩ := hf
      replace hf := ix_i hf
      obtain ⟨i7, hf⟩ := hf
      refine J_daload Z.1 dX13_folded_106 t6 i7 ?_
      refine J_aload_n Z.1 0 dX13_folded_107 rfl rfl ?_
      refine J_get (v := va_rf (hR h this 43)) Z.1 dX13_folded_108 fl_X13_56 t0 rfl ?_
      refine J_tr (fun r8 er8 => ?_)
      replace hf := lt_i hf r8 er8
      refine J_iload Z.1 5 dX13_folded_111 rfl ?_
      refine J_iload Z.1 4 dX13_folded_113 rfl ?_
      refine J_iadd Z.1 dX13_folded_115 ?_
      replace hf := nn_i hf
      obtain ⟨a8, rfl, hf⟩ := hf
      replace hf := tg_i hf
      obtain ⟨t9, hf⟩ := hf
      replace hf := ix_i hf
      obtain ⟨i10, hf⟩ := hf
      refine J_daload Z.1 dX13_folded_116 t9 i10 ?_
      refine J_dmax Z.1 dX13_folded_117 q_2003 q_2004 q_142 q_2005 Z.2.1 (zF Z (d := 0) (by omega)) (zO1 Z (by omega) (by simp [cat_i, cat_l, cat_d, cat_rf])) ?_
      exact pX13_folded_b120_ok Z hK t0 hk42 hk59 _ _ _ _ _ _ _ hf
    · rw [if_neg c4] at hf
      refine J_aload_n Z.1 0 dX13_folded_79 rfl rfl ?_
      refine J_get (v := va_rf (hR h this 43)) Z.1 dX13_folded_80 fl_X13_56 t0 rfl ?_
      refine J_tr (fun r11 er11 => ?_)
      replace hf := lt_i hf r11 er11
      refine J_iload Z.1 5 dX13_folded_83 rfl ?_
      replace hf := nn_i hf
      obtain ⟨a11, rfl, hf⟩ := hf
      replace hf := tg_i hf
      obtain ⟨t12, hf⟩ := hf
      replace hf := ix_i hf
      obtain ⟨i13, hf⟩ := hf
      refine J_daload Z.1 dX13_folded_85 t12 i13 ?_
      refine J_aload_n Z.1 0 dX13_folded_86 rfl rfl ?_
      refine J_get (v := va_rf (hR h this 43)) Z.1 dX13_folded_87 fl_X13_56 t0 rfl ?_
      refine J_tr (fun r14 er14 => ?_)
      replace hf := lt_i hf r14 er14
      refine J_iload Z.1 5 dX13_folded_90 rfl ?_
      refine J_iload Z.1 4 dX13_folded_92 rfl ?_
      refine J_iadd Z.1 dX13_folded_94 ?_
      replace hf := nn_i hf
      obtain ⟨a14, rfl, hf⟩ := hf
      replace hf := tg_i hf
      obtain ⟨t15, hf⟩ := hf
      replace hf := ix_i hf
      obtain ⟨i16, hf⟩ := hf
      refine J_daload Z.1 dX13_folded_95 t15 i16 ?_
      refine J_dadd Z.1 dX13_folded_96 ?_
      refine J_goto Z.1 120 dX13_folded_97 (by decide) ?_
      exact pX13_folded_b120_ok Z hK t0 hk42 hk59 _ _ _ _ _ _ _ hf
def pX13_folded_l59 (g : MT) (this : Nat) (p1 : Int32) (p2 : Int32) (p3 : Int32) (k42 : Int32 → CT → Option ((UInt64) × CT)) : Nat → Int32 → Int32 → Int32 → CT → Option ((UInt64) × CT)
  | 0, _, _, _, _ => none
  | n + 1, l4, l5, l6, h => pX13_folded_b59 g this p1 p2 p3 k42 (pX13_folded_l59 g this p1 p2 p3 k42 n) l4 l5 l6 h
theorem pX13_folded_l59_ok {X : Cx} {G : Gx} {dk : Nat} {g : MT} {r0 : UInt64} {h0 : CT} {this : Nat} {p1 : Int32} {p2 : Int32} {p3 : Int32} {k42 : Int32 → CT → Option ((UInt64) × CT)} (Z : Zx X G cX13_folded RX13 7 dk (some .double) (some (.double r0)) g h0) (hK : 1 ≤ dk) (t0 : gT g this = 12) (hk42 : ∀ (l4 : Int32) (h : CT), k42 l4 h = some (r0, h0) → J X g h 42 [(0, va_rf (some this)), (2, .int p2), (3, .int p3), (4, .int l4)] []) : ∀ (n : Nat) (l4 : Int32) (l5 : Int32) (l6 : Int32) (h : CT), pX13_folded_l59 g this p1 p2 p3 k42 n l4 l5 l6 h = some (r0, h0) → J X g h 59 [(0, va_rf (some this)), (2, .int p2), (3, .int p3), (4, .int l4), (5, .int l5), (6, .int l6)] [] := by
  intro n
  induction n with
  | zero => intro l4 l5 l6 h hf; cases hf
  | succ n ih => intro l4 l5 l6 h hf; exact pX13_folded_b59_ok Z hK t0 hk42 ih l4 l5 l6 h hf
def pX13_folded_b42 (g : MT) (this : Nat) (p1 : Int32) (p2 : Int32) (p3 : Int32) (k42 : Int32 → CT → Option ((UInt64) × CT)) (l4 : Int32) (h : CT) : Option ((UInt64) × CT) := if l4 ≤ 1 then if p2 ≤ 0 then if p3 = 0 then some ((pX13_strangeOf 4), h) else some (0, h) else lt (hR h this 43) fun r4 => (nn r4 fun a4 => (tg g a4 22 (ix (gL g a4) 0 (some ((hD h a4 (Int32.toNatClampNeg 0)), h))))) else lt ((l4 + 1) / 2) fun x7 => (pX13_folded_l59 g this p1 p2 p3 k42 FUEL l4 x7 0 h)
set_option maxRecDepth 10000 in
set_option maxHeartbeats 4000000 in
theorem pX13_folded_b42_ok {X : Cx} {G : Gx} {dk : Nat} {g : MT} {r0 : UInt64} {h0 : CT} {this : Nat} {p1 : Int32} {p2 : Int32} {p3 : Int32} {k42 : Int32 → CT → Option ((UInt64) × CT)} (Z : Zx X G cX13_folded RX13 7 dk (some .double) (some (.double r0)) g h0) (hK : 1 ≤ dk) (t0 : gT g this = 12) (hk42 : ∀ (l4 : Int32) (h : CT), k42 l4 h = some (r0, h0) → J X g h 42 [(0, va_rf (some this)), (2, .int p2), (3, .int p3), (4, .int l4)] []) (l4 : Int32) (h : CT) (hf : pX13_folded_b42 g this p1 p2 p3 k42 l4 h = some (r0, h0)) : J X g h 42 [(0, va_rf (some this)), (2, .int p2), (3, .int p3), (4, .int l4)] [] := by
  unfold pX13_folded_b42 at hf
  refine J_iload Z.1 3 dX13_folded_42 rfl ?_
  refine J_iconst Z.1 (v := 1) (by decide) dX13_folded_44 ?_
  refine J_icmp_le Z.1 144 dX13_folded_45 (by decide) (fun c1 => ?_) (fun c1 => ?_)
  · rw [if_pos c1] at hf
    refine J_iload_n Z.1 1 dX13_folded_144 rfl rfl ?_
    refine J_if_le Z.1 155 dX13_folded_145 (by decide) (fun c2 => ?_) (fun c2 => ?_)
    · rw [if_pos c2] at hf
      refine J_iload_n Z.1 2 dX13_folded_155 rfl rfl ?_
      refine J_if_eq Z.1 163 dX13_folded_156 (by decide) (fun c3 => ?_) (fun c3 => ?_)
      · rw [if_pos c3] at hf
        refine J_iconst Z.1 (v := 4) (by decide) dX13_folded_163 ?_
        refine J_callS (as := [.int 4]) (rest := []) (sy := [.double (pX13_strangeOf 4)]) Z.1 dX13_folded_164 cw_X13_315 (pX13_strangeOf_ok G (dk - 1) (by omega) g h 4) (zG Z) rfl (by decide) (zF Z (by omega)) (zO Z (by omega) (by decide)) (zM _) Z.2.1 Z.2.1 rfl rfl ?_
        cases hf
        exact J_dret Z.1 Z.2.2.2.2.2 dX13_folded_167
      · rw [if_neg c3] at hf
        refine J_dconst0 Z.1 dX13_folded_159 ?_
        refine J_goto Z.1 167 dX13_folded_160 (by decide) ?_
        cases hf
        exact J_dret Z.1 Z.2.2.2.2.2 dX13_folded_167
    · rw [if_neg c2] at hf
      refine J_aload_n Z.1 0 dX13_folded_148 rfl rfl ?_
      refine J_get (v := va_rf (hR h this 43)) Z.1 dX13_folded_149 fl_X13_56 t0 rfl ?_
      refine J_tr (fun r4 er4 => ?_)
      replace hf := lt_i hf r4 er4
      refine J_iconst Z.1 (v := 0) (by decide) dX13_folded_152 ?_
      replace hf := nn_i hf
      obtain ⟨a4, rfl, hf⟩ := hf
      replace hf := tg_i hf
      obtain ⟨t5, hf⟩ := hf
      replace hf := ix_i hf
      obtain ⟨i6, hf⟩ := hf
      refine J_daload Z.1 dX13_folded_153 t5 i6 ?_
      cases hf
      exact J_dret Z.1 Z.2.2.2.2.2 dX13_folded_154
  · rw [if_neg c1] at hf
    refine J_iload Z.1 3 dX13_folded_48 rfl ?_
    refine J_iconst Z.1 (v := 1) (by decide) dX13_folded_50 ?_
    refine J_iadd Z.1 dX13_folded_51 ?_
    refine J_iconst Z.1 (v := 2) (by decide) dX13_folded_52 ?_
    refine J_idiv Z.1 (by decide) dX13_folded_53 ?_
    refine J_ti (fun x7 ex7 => ?_)
    replace hf := lt_i hf x7 ex7
    refine J_istore Z.1 (lv2 := [(5, .int x7), (0, va_rf (some this)), (2, .int p2), (3, .int p3), (4, .int l4)]) dX13_folded_54 (zL Z (by decide)) rfl ?_
    refine J_iconst Z.1 (v := 0) (by decide) dX13_folded_56 ?_
    refine J_istore Z.1 (lv2 := [(6, .int 0), (5, .int x7), (0, va_rf (some this)), (2, .int p2), (3, .int p3), (4, .int l4)]) dX13_folded_57 (zL Z (by decide)) rfl ?_
    refine J_lv [2, 3, 4, 5, 1, 0] rfl ?_
    exact pX13_folded_l59_ok Z hK t0 hk42 FUEL _ _ _ _ hf
def pX13_folded_l42 (g : MT) (this : Nat) (p1 : Int32) (p2 : Int32) (p3 : Int32) : Nat → Int32 → CT → Option ((UInt64) × CT)
  | 0, _, _ => none
  | n + 1, l4, h => pX13_folded_b42 g this p1 p2 p3 (pX13_folded_l42 g this p1 p2 p3 n) l4 h
theorem pX13_folded_l42_ok {X : Cx} {G : Gx} {dk : Nat} {g : MT} {r0 : UInt64} {h0 : CT} {this : Nat} {p1 : Int32} {p2 : Int32} {p3 : Int32} (Z : Zx X G cX13_folded RX13 7 dk (some .double) (some (.double r0)) g h0) (hK : 1 ≤ dk) (t0 : gT g this = 12) : ∀ (n : Nat) (l4 : Int32) (h : CT), pX13_folded_l42 g this p1 p2 p3 n l4 h = some (r0, h0) → J X g h 42 [(0, va_rf (some this)), (2, .int p2), (3, .int p3), (4, .int l4)] [] := by
  intro n
  induction n with
  | zero => intro l4 h hf; cases hf
  | succ n ih => intro l4 h hf; exact pX13_folded_b42_ok Z hK t0 ih l4 h hf
def pX13_folded_b3 (g : MT) (this : Nat) (p1 : Int32) (p2 : Int32) (p3 : Int32) (k3 : Int32 → CT → Option ((UInt64) × CT)) (l4 : Int32) (h : CT) : Option ((UInt64) × CT) := if p2 ≤ l4 then lt (sI h this 44 0) fun h2 => (pX13_folded_l42 g this p1 p2 p3  FUEL p2 h2) else lt (hR h this 43) fun r3 => (lt (hR h this 20) fun r4 => (nn r4 fun a4 => (tg g a4 22 (ix (gL g a4) ((16 * p1) + l4) (nn r3 fun a3 => (tg g a3 22 (ix (gL g a3) l4 (lt (sD h a3 (Int32.toNatClampNeg l4) (hD h a4 (Int32.toNatClampNeg ((16 * p1) + l4)))) fun h9 => (lt (l4 + 1) fun x10 => (k3 x10 h9))))))))))
set_option maxRecDepth 10000 in
set_option maxHeartbeats 4000000 in
theorem pX13_folded_b3_ok {X : Cx} {G : Gx} {dk : Nat} {g : MT} {r0 : UInt64} {h0 : CT} {this : Nat} {p1 : Int32} {p2 : Int32} {p3 : Int32} {k3 : Int32 → CT → Option ((UInt64) × CT)} (Z : Zx X G cX13_folded RX13 7 dk (some .double) (some (.double r0)) g h0) (hK : 1 ≤ dk) (t0 : gT g this = 12) (hk3 : ∀ (l4 : Int32) (h : CT), k3 l4 h = some (r0, h0) → J X g h 3 [(0, va_rf (some this)), (1, .int p1), (2, .int p2), (3, .int p3), (4, .int l4)] []) (l4 : Int32) (h : CT) (hf : pX13_folded_b3 g this p1 p2 p3 k3 l4 h = some (r0, h0)) : J X g h 3 [(0, va_rf (some this)), (1, .int p1), (2, .int p2), (3, .int p3), (4, .int l4)] [] := by
  unfold pX13_folded_b3 at hf
  refine J_iload Z.1 4 dX13_folded_3 rfl ?_
  refine J_iload_n Z.1 2 dX13_folded_5 rfl rfl ?_
  refine J_icmp_ge Z.1 34 dX13_folded_6 (by decide) (fun c1 => ?_) (fun c1 => ?_)
  · rw [if_pos c1] at hf
    refine J_aload_n Z.1 0 dX13_folded_34 rfl rfl ?_
    refine J_iconst Z.1 (v := 0) (by decide) dX13_folded_35 ?_
    refine J_putI Z.1 dX13_folded_36 fl_X13_487 (fun q => by cases q) t0 rfl rfl (congrArg Value.int (hI_s _ _ _ _)) ?_
    refine J_th (fun h2 eh2 => ?_)
    replace hf := lt_i hf h2 eh2
    refine J_iload_n Z.1 2 dX13_folded_39 rfl rfl ?_
    refine J_istore Z.1 (lv2 := [(4, .int p2), (0, va_rf (some this)), (1, .int p1), (2, .int p2), (3, .int p3)]) dX13_folded_40 (zL Z (by decide)) rfl ?_
    refine J_lv [1, 3, 4, 0] rfl ?_
    exact pX13_folded_l42_ok Z hK t0  FUEL _ _ hf
  · rw [if_neg c1] at hf
    refine J_aload_n Z.1 0 dX13_folded_9 rfl rfl ?_
    refine J_get (v := va_rf (hR h this 43)) Z.1 dX13_folded_10 fl_X13_56 t0 rfl ?_
    refine J_tr (fun r3 er3 => ?_)
    replace hf := lt_i hf r3 er3
    refine J_iload Z.1 4 dX13_folded_13 rfl ?_
    refine J_aload_n Z.1 0 dX13_folded_15 rfl rfl ?_
    refine J_get (v := va_rf (hR h this 20)) Z.1 dX13_folded_16 fl_X13_34 t0 rfl ?_
    refine J_tr (fun r4 er4 => ?_)
    replace hf := lt_i hf r4 er4
    refine J_bipush Z.1 (v := 16) (by decide) dX13_folded_19 ?_
    refine J_iload_n Z.1 1 dX13_folded_21 rfl rfl ?_
    refine J_imul Z.1 dX13_folded_22 ?_
    refine J_iload Z.1 4 dX13_folded_23 rfl ?_
    refine J_iadd Z.1 dX13_folded_25 ?_
    replace hf := nn_i hf
    obtain ⟨a4, rfl, hf⟩ := hf
    replace hf := tg_i hf
    obtain ⟨t5, hf⟩ := hf
    replace hf := ix_i hf
    obtain ⟨i6, hf⟩ := hf
    refine J_daload Z.1 dX13_folded_26 t5 i6 ?_
    replace hf := nn_i hf
    obtain ⟨a3, rfl, hf⟩ := hf
    replace hf := tg_i hf
    obtain ⟨t7, hf⟩ := hf
    replace hf := ix_i hf
    obtain ⟨i8, hf⟩ := hf
    refine J_dastore Z.1 dX13_folded_27 t7 i8 ?_
    refine J_th (fun h9 eh9 => ?_)
    replace hf := lt_i hf h9 eh9
    refine J_iinc Z.1 (v := 1) (lv2 := [(4, .int (l4 + 1)), (0, va_rf (some this)), (1, .int p1), (2, .int p2), (3, .int p3)]) 4 dX13_folded_28 rfl (by decide) (zL Z (by decide)) rfl ?_
    obtain ⟨x10, ex10⟩ : ∃ z, z = (l4 + 1) := ⟨_, rfl⟩
    replace hf := lt_i hf x10 ex10
    rw [← ex10]
    refine J_goto Z.1 3 dX13_folded_31 (by decide) ?_
    refine J_lv [1, 2, 3, 4, 0] rfl ?_
    exact hk3 _ _ hf
def pX13_folded_l3 (g : MT) (this : Nat) (p1 : Int32) (p2 : Int32) (p3 : Int32) : Nat → Int32 → CT → Option ((UInt64) × CT)
  | 0, _, _ => none
  | n + 1, l4, h => pX13_folded_b3 g this p1 p2 p3 (pX13_folded_l3 g this p1 p2 p3 n) l4 h
theorem pX13_folded_l3_ok {X : Cx} {G : Gx} {dk : Nat} {g : MT} {r0 : UInt64} {h0 : CT} {this : Nat} {p1 : Int32} {p2 : Int32} {p3 : Int32} (Z : Zx X G cX13_folded RX13 7 dk (some .double) (some (.double r0)) g h0) (hK : 1 ≤ dk) (t0 : gT g this = 12) : ∀ (n : Nat) (l4 : Int32) (h : CT), pX13_folded_l3 g this p1 p2 p3 n l4 h = some (r0, h0) → J X g h 3 [(0, va_rf (some this)), (1, .int p1), (2, .int p2), (3, .int p3), (4, .int l4)] [] := by
  intro n
  induction n with
  | zero => intro l4 h hf; cases hf
  | succ n ih => intro l4 h hf; exact pX13_folded_b3_ok Z hK t0 ih l4 h hf
def pX13_folded (g : MT) (h : CT) (this : Nat) (p1 : Int32) (p2 : Int32) (p3 : Int32) : Option ((UInt64) × CT) := tg g this 12 (pX13_folded_l3 g this p1 p2 p3  FUEL 0 h)
set_option maxRecDepth 10000 in
set_option maxHeartbeats 4000000 in
theorem pX13_folded_ok (G : Gx) (dk : Nat) (hK : 1 ≤ dk) {g : MT} {h h0 : CT} {this : Nat} {p1 : Int32} {p2 : Int32} {p3 : Int32} {r0 : UInt64} (hf : pX13_folded g h this p1 p2 p3 = some (r0, h0)) : Ctr G dk yX13_folded cX13_folded 7 (some .double) [va_rf (some this), .int p1, .int p2, .int p3] g h (some (.double r0)) g h0 := by
  refine Ctr.ofZ (lv := [(0, va_rf (some this)), (1, .int p1), (2, .int p2), (3, .int p3)]) (by decide +kernel) (by simp [cat_i, cat_l, cat_d, cat_rf]) rfl fun X Z => ?_
  unfold pX13_folded at hf
  replace hf := tg_i hf
  obtain ⟨t0, hf⟩ := hf
  refine J_iconst Z.1 (v := 0) (by decide) dX13_folded_0 ?_
  refine J_istore Z.1 (lv2 := [(4, .int 0), (0, va_rf (some this)), (1, .int p1), (2, .int p2), (3, .int p3)]) dX13_folded_1 (zL Z (by decide)) rfl ?_
  refine J_lv [1, 2, 3, 4, 0] rfl ?_
  exact pX13_folded_l3_ok Z hK t0  FUEL _ _ hf
theorem dX13_ends_0 : decode cX13_ends 0 = .ok (.aload_n 0, 1) := by decide +kernel
theorem dX13_ends_1 : decode cX13_ends 1 = .ok (.iload_n 2, 1) := by decide +kernel
theorem dX13_ends_2 : decode cX13_ends 2 = .ok (.putfield 401, 3) := by decide +kernel
theorem dX13_ends_5 : decode cX13_ends 5 = .ok (.aload_n 0, 1) := by decide +kernel
theorem dX13_ends_6 : decode cX13_ends 6 = .ok (.getfield 53, 3) := by decide +kernel
theorem dX13_ends_9 : decode cX13_ends 9 = .ok (.iload_n 1, 1) := by decide +kernel
theorem dX13_ends_10 : decode cX13_ends 10 = .ok (.iload_n 2, 1) := by decide +kernel
theorem dX13_ends_11 : decode cX13_ends 11 = .ok (.iastore, 1) := by decide +kernel
theorem dX13_ends_12 : decode cX13_ends 12 = .ok (.aload_n 0, 1) := by decide +kernel
theorem dX13_ends_13 : decode cX13_ends 13 = .ok (.iload_n 2, 1) := by decide +kernel
theorem dX13_ends_14 : decode cX13_ends 14 = .ok (.invokevirtual 478, 3) := by decide +kernel
theorem dX13_ends_17 : decode cX13_ends 17 = .ok (.return_, 1) := by decide +kernel
def pX13_ends (g : MT) (h : CT) (this : Nat) (p1 : Int32) (p2 : Int32) : Option CT := tg g this 12 (lt (sI h this 31 p2) fun h1 => (lt (hR h1 this 28) fun r2 => (nn r2 fun a2 => (tg g a2 20 (ix (gL g a2) p1 (lt (sI h1 a2 (Int32.toNatClampNeg p1) p2) fun h5 => (bd (pX13_lasts g h5 this p2) fun h6 => (some h6))))))))
set_option maxRecDepth 10000 in
set_option maxHeartbeats 4000000 in
theorem pX13_ends_ok (G : Gx) (dk : Nat) (hK : 2 ≤ dk) {g : MT} {h h0 : CT} {this : Nat} {p1 : Int32} {p2 : Int32} (hf : pX13_ends g h this p1 p2 = some h0) : Ctr G dk yX13_ends cX13_ends 3 none [va_rf (some this), .int p1, .int p2] g h none g h0 := by
  refine Ctr.ofZ (lv := [(0, va_rf (some this)), (1, .int p1), (2, .int p2)]) (by decide +kernel) (by simp [cat_i, cat_l, cat_d, cat_rf]) rfl fun X Z => ?_
  unfold pX13_ends at hf
  replace hf := tg_i hf
  obtain ⟨t0, hf⟩ := hf
  refine J_aload_n Z.1 0 dX13_ends_0 rfl rfl ?_
  refine J_iload_n Z.1 2 dX13_ends_1 rfl rfl ?_
  refine J_putI Z.1 dX13_ends_2 fl_X13_401 (fun q => by cases q) t0 rfl rfl (congrArg Value.int (hI_s _ _ _ _)) ?_
  refine J_th (fun h1 eh1 => ?_)
  replace hf := lt_i hf h1 eh1
  refine J_aload_n Z.1 0 dX13_ends_5 rfl rfl ?_
  refine J_get (v := va_rf (hR h1 this 28)) Z.1 dX13_ends_6 fl_X13_53 t0 rfl ?_
  refine J_tr (fun r2 er2 => ?_)
  replace hf := lt_i hf r2 er2
  refine J_iload_n Z.1 1 dX13_ends_9 rfl rfl ?_
  refine J_iload_n Z.1 2 dX13_ends_10 rfl rfl ?_
  replace hf := nn_i hf
  obtain ⟨a2, rfl, hf⟩ := hf
  replace hf := tg_i hf
  obtain ⟨t3, hf⟩ := hf
  replace hf := ix_i hf
  obtain ⟨i4, hf⟩ := hf
  refine J_iastore Z.1 dX13_ends_11 t3 i4 ?_
  refine J_th (fun h5 eh5 => ?_)
  replace hf := lt_i hf h5 eh5
  refine J_aload_n Z.1 0 dX13_ends_12 rfl rfl ?_
  refine J_iload_n Z.1 2 dX13_ends_13 rfl rfl ?_
  replace hf := bd_i hf
  obtain ⟨h6, q7, hf⟩ := hf
  refine J_callV (ci := 11) (as := [.int p2]) (rest := []) (sy := []) Z.1 dX13_ends_14 cw_X13_478 (pX13_lasts_ok G (dk - 1) (by omega) q7) rfl rfl t0 (zG Z) rfl (by decide) (zF Z (by omega)) (zO Z (by omega) (by decide)) (zM _) Z.2.1 Z.2.1 rfl rfl ?_
  cases hf
  exact J_vret Z.1 Z.2.2.2.2.2 dX13_ends_17
theorem dX13_counts_0 : decode cX13_counts 0 = .ok (.aload_n 0, 1) := by decide +kernel
theorem dX13_counts_1 : decode cX13_counts 1 = .ok (.getfield 34, 3) := by decide +kernel
theorem dX13_counts_4 : decode cX13_counts 4 = .ok (.bipush 96, 2) := by decide +kernel
theorem dX13_counts_6 : decode cX13_counts 6 = .ok (.aload_n 0, 1) := by decide +kernel
theorem dX13_counts_7 : decode cX13_counts 7 = .ok (.iload_n 1, 1) := by decide +kernel
theorem dX13_counts_8 : decode cX13_counts 8 = .ok (.iconst 5, 1) := by decide +kernel
theorem dX13_counts_9 : decode cX13_counts 9 = .ok (.invokevirtual 381, 3) := by decide +kernel
theorem dX13_counts_12 : decode cX13_counts 12 = .ok (.iadd, 1) := by decide +kernel
theorem dX13_counts_13 : decode cX13_counts 13 = .ok (.aload_n 0, 1) := by decide +kernel
theorem dX13_counts_14 : decode cX13_counts 14 = .ok (.invokevirtual 497, 3) := by decide +kernel
theorem dX13_counts_17 : decode cX13_counts 17 = .ok (.i2d, 1) := by decide +kernel
theorem dX13_counts_18 : decode cX13_counts 18 = .ok (.dastore, 1) := by decide +kernel
theorem dX13_counts_19 : decode cX13_counts 19 = .ok (.aload_n 0, 1) := by decide +kernel
theorem dX13_counts_20 : decode cX13_counts 20 = .ok (.aload_n 0, 1) := by decide +kernel
theorem dX13_counts_21 : decode cX13_counts 21 = .ok (.getfield 407, 3) := by decide +kernel
theorem dX13_counts_24 : decode cX13_counts 24 = .ok (.iload_n 2, 1) := by decide +kernel
theorem dX13_counts_25 : decode cX13_counts 25 = .ok (.invokestatic 178, 3) := by decide +kernel
theorem dX13_counts_28 : decode cX13_counts 28 = .ok (.putfield 407, 3) := by decide +kernel
theorem dX13_counts_31 : decode cX13_counts 31 = .ok (.aload_n 0, 1) := by decide +kernel
theorem dX13_counts_32 : decode cX13_counts 32 = .ok (.iload_n 1, 1) := by decide +kernel
theorem dX13_counts_33 : decode cX13_counts 33 = .ok (.iload_n 2, 1) := by decide +kernel
theorem dX13_counts_34 : decode cX13_counts 34 = .ok (.iconst 1, 1) := by decide +kernel
theorem dX13_counts_35 : decode cX13_counts 35 = .ok (.iadd, 1) := by decide +kernel
theorem dX13_counts_36 : decode cX13_counts 36 = .ok (.invokevirtual 494, 3) := by decide +kernel
theorem dX13_counts_39 : decode cX13_counts 39 = .ok (.return_, 1) := by decide +kernel
def pX13_counts (g : MT) (h : CT) (this : Nat) (p1 : Int32) (p2 : Int32) : Option CT := tg g this 12 (lt (hR h this 20) fun r1 => (bd (pX13_at g h this p1 5) fun x2 => (bd (pX13_bits g h this) fun x4 => (nn r1 fun a1 => (tg g a1 22 (ix (gL g a1) (96 + x2) (lt (sD h a1 (Int32.toNatClampNeg (96 + x2)) (fi2d x4)) fun h8 => (lt (sI h8 this 30 (pJ9_max_7cf53 (hI h8 this 30) p2)) fun h9 => (bd (pX13_ends g h9 this p1 (p2 + 1)) fun h10 => (some h10))))))))))
set_option maxRecDepth 10000 in
set_option maxHeartbeats 4000000 in
theorem pX13_counts_ok (G : Gx) (dk : Nat) (hK : 3 ≤ dk) {g : MT} {h h0 : CT} {this : Nat} {p1 : Int32} {p2 : Int32} (hf : pX13_counts g h this p1 p2 = some h0) : Ctr G dk yX13_counts cX13_counts 3 none [va_rf (some this), .int p1, .int p2] g h none g h0 := by
  refine Ctr.ofZ (lv := [(0, va_rf (some this)), (1, .int p1), (2, .int p2)]) (by decide +kernel) (by simp [cat_i, cat_l, cat_d, cat_rf]) rfl fun X Z => ?_
  unfold pX13_counts at hf
  replace hf := tg_i hf
  obtain ⟨t0, hf⟩ := hf
  refine J_aload_n Z.1 0 dX13_counts_0 rfl rfl ?_
  refine J_get (v := va_rf (hR h this 20)) Z.1 dX13_counts_1 fl_X13_34 t0 rfl ?_
  refine J_tr (fun r1 er1 => ?_)
  replace hf := lt_i hf r1 er1
  refine J_bipush Z.1 (v := 96) (by decide) dX13_counts_4 ?_
  refine J_aload_n Z.1 0 dX13_counts_6 rfl rfl ?_
  refine J_iload_n Z.1 1 dX13_counts_7 rfl rfl ?_
  refine J_iconst Z.1 (v := 5) (by decide) dX13_counts_8 ?_
  replace hf := bd_i hf
  obtain ⟨x2, q3, hf⟩ := hf
  refine J_callV (ci := 11) (as := [.int p1, .int 5]) (rest := [.int 96, va_rf r1]) (sy := [.int x2, .int 96, va_rf r1]) Z.1 dX13_counts_9 cw_X13_381 (pX13_at_ok G (dk - 1) (by omega) q3) rfl rfl t0 (zG Z) rfl (by simp [cat_i, cat_l, cat_d, cat_rf]) (zF Z (by omega)) (zO Z (by omega) (by decide)) (zM _) Z.2.1 Z.2.1 rfl rfl ?_
  refine J_iadd Z.1 dX13_counts_12 ?_
  refine J_aload_n Z.1 0 dX13_counts_13 rfl rfl ?_
  replace hf := bd_i hf
  obtain ⟨x4, q5, hf⟩ := hf
  refine J_callV (ci := 11) (as := []) (rest := [.int (96 + x2), va_rf r1]) (sy := [.int x4, .int (96 + x2), va_rf r1]) Z.1 dX13_counts_14 cw_X13_497 (pX13_bits_ok G (dk - 1) (by omega) q5) rfl rfl t0 (zG Z) rfl (by simp [cat_i, cat_l, cat_d, cat_rf]) (zF Z (by omega)) (zO Z (by omega) (by decide)) (zM _) Z.2.1 Z.2.1 rfl rfl ?_
  refine J_i2d Z.1 dX13_counts_17 ?_
  replace hf := nn_i hf
  obtain ⟨a1, rfl, hf⟩ := hf
  replace hf := tg_i hf
  obtain ⟨t6, hf⟩ := hf
  replace hf := ix_i hf
  obtain ⟨i7, hf⟩ := hf
  refine J_dastore Z.1 dX13_counts_18 t6 i7 ?_
  refine J_th (fun h8 eh8 => ?_)
  replace hf := lt_i hf h8 eh8
  refine J_aload_n Z.1 0 dX13_counts_19 rfl rfl ?_
  refine J_aload_n Z.1 0 dX13_counts_20 rfl rfl ?_
  refine J_get (v := .int (hI h8 this 30)) Z.1 dX13_counts_21 fl_X13_407 t0 rfl ?_
  refine J_iload_n Z.1 2 dX13_counts_24 rfl rfl ?_
  refine J_callS (as := [.int (hI h8 this 30), .int p2]) (rest := [va_rf (some this)]) (sy := [.int (pJ9_max_7cf53 (hI h8 this 30) p2), va_rf (some this)]) Z.1 dX13_counts_25 cw_X13_178 (pJ9_max_7cf53_ok G (dk - 1) (by omega) g h8 (hI h8 this 30) p2) (zG Z) rfl (by simp [cat_i, cat_l, cat_d, cat_rf]) (zF Z (by omega)) (zO Z (by omega) (by decide)) (zM _) Z.2.1 Z.2.1 rfl rfl ?_
  refine J_putI Z.1 dX13_counts_28 fl_X13_407 (fun q => by cases q) t0 rfl rfl (congrArg Value.int (hI_s _ _ _ _)) ?_
  refine J_th (fun h9 eh9 => ?_)
  replace hf := lt_i hf h9 eh9
  refine J_aload_n Z.1 0 dX13_counts_31 rfl rfl ?_
  refine J_iload_n Z.1 1 dX13_counts_32 rfl rfl ?_
  refine J_iload_n Z.1 2 dX13_counts_33 rfl rfl ?_
  refine J_iconst Z.1 (v := 1) (by decide) dX13_counts_34 ?_
  refine J_iadd Z.1 dX13_counts_35 ?_
  replace hf := bd_i hf
  obtain ⟨h10, q11, hf⟩ := hf
  refine J_callV (ci := 11) (as := [.int p1, .int (p2 + 1)]) (rest := []) (sy := []) Z.1 dX13_counts_36 cw_X13_494 (pX13_ends_ok G (dk - 1) (by omega) q11) rfl rfl t0 (zG Z) rfl (by decide) (zF Z (by omega)) (zO Z (by omega) (by decide)) (zM _) Z.2.1 Z.2.1 rfl rfl ?_
  cases hf
  exact J_vret Z.1 Z.2.2.2.2.2 dX13_counts_39
theorem dX13_flips_0 : decode cX13_flips 0 = .ok (.aload_n 0, 1) := by decide +kernel
theorem dX13_flips_1 : decode cX13_flips 1 = .ok (.getfield 31, 3) := by decide +kernel
theorem dX13_flips_4 : decode cX13_flips 4 = .ok (.iconst 3, 1) := by decide +kernel
theorem dX13_flips_5 : decode cX13_flips 5 = .ok (.dup2, 1) := by decide +kernel
theorem dX13_flips_6 : decode cX13_flips 6 = .ok (.iaload, 1) := by decide +kernel
theorem dX13_flips_7 : decode cX13_flips 7 = .ok (.iconst 1, 1) := by decide +kernel
theorem dX13_flips_8 : decode cX13_flips 8 = .ok (.aload_n 0, 1) := by decide +kernel
theorem dX13_flips_9 : decode cX13_flips 9 = .ok (.getfield 31, 3) := by decide +kernel
theorem dX13_flips_12 : decode cX13_flips 12 = .ok (.iconst 0, 1) := by decide +kernel
theorem dX13_flips_13 : decode cX13_flips 13 = .ok (.iaload, 1) := by decide +kernel
theorem dX13_flips_14 : decode cX13_flips 14 = .ok (.ishl, 1) := by decide +kernel
theorem dX13_flips_15 : decode cX13_flips 15 = .ok (.iconst 1, 1) := by decide +kernel
theorem dX13_flips_16 : decode cX13_flips 16 = .ok (.isub, 1) := by decide +kernel
theorem dX13_flips_17 : decode cX13_flips 17 = .ok (.ixor, 1) := by decide +kernel
theorem dX13_flips_18 : decode cX13_flips 18 = .ok (.iastore, 1) := by decide +kernel
theorem dX13_flips_19 : decode cX13_flips 19 = .ok (.aload_n 0, 1) := by decide +kernel
theorem dX13_flips_20 : decode cX13_flips 20 = .ok (.aload_n 0, 1) := by decide +kernel
theorem dX13_flips_21 : decode cX13_flips 21 = .ok (.getfield 407, 3) := by decide +kernel
theorem dX13_flips_24 : decode cX13_flips 24 = .ok (.iload_n 1, 1) := by decide +kernel
theorem dX13_flips_25 : decode cX13_flips 25 = .ok (.invokestatic 178, 3) := by decide +kernel
theorem dX13_flips_28 : decode cX13_flips 28 = .ok (.putfield 407, 3) := by decide +kernel
theorem dX13_flips_31 : decode cX13_flips 31 = .ok (.aload_n 0, 1) := by decide +kernel
theorem dX13_flips_32 : decode cX13_flips 32 = .ok (.iload_n 1, 1) := by decide +kernel
theorem dX13_flips_33 : decode cX13_flips 33 = .ok (.iconst 1, 1) := by decide +kernel
theorem dX13_flips_34 : decode cX13_flips 34 = .ok (.iadd, 1) := by decide +kernel
theorem dX13_flips_35 : decode cX13_flips 35 = .ok (.putfield 404, 3) := by decide +kernel
theorem dX13_flips_38 : decode cX13_flips 38 = .ok (.aload_n 0, 1) := by decide +kernel
theorem dX13_flips_39 : decode cX13_flips 39 = .ok (.aload_n 0, 1) := by decide +kernel
theorem dX13_flips_40 : decode cX13_flips 40 = .ok (.getfield 404, 3) := by decide +kernel
theorem dX13_flips_43 : decode cX13_flips 43 = .ok (.invokevirtual 478, 3) := by decide +kernel
theorem dX13_flips_46 : decode cX13_flips 46 = .ok (.return_, 1) := by decide +kernel
def pX13_flips (g : MT) (h : CT) (this : Nat) (p1 : Int32) : Option CT := tg g this 12 (lt (hR h this 19) fun r1 => (nn r1 fun a1 => (tg g a1 20 (ix (gL g a1) 3 (lt (hR h this 19) fun r4 => (nn r4 fun a4 => (tg g a4 20 (ix (gL g a4) 0 (ix (gL g a1) 3 (lt (sI h a1 (Int32.toNatClampNeg 3) ((hI h a1 (Int32.toNatClampNeg 3)) ^^^ (((1 : Int32) <<< ((hI h a4 (Int32.toNatClampNeg 0)) &&& 31)) - 1))) fun h8 => (lt (sI h8 this 30 (pJ9_max_7cf53 (hI h8 this 30) p1)) fun h9 => (lt (sI h9 this 29 (p1 + 1)) fun h10 => (bd (pX13_lasts g h10 this (hI h10 this 29)) fun h11 => (some h11))))))))))))))
set_option maxRecDepth 10000 in
set_option maxHeartbeats 4000000 in
theorem pX13_flips_ok (G : Gx) (dk : Nat) (hK : 2 ≤ dk) {g : MT} {h h0 : CT} {this : Nat} {p1 : Int32} (hf : pX13_flips g h this p1 = some h0) : Ctr G dk yX13_flips cX13_flips 2 none [va_rf (some this), .int p1] g h none g h0 := by
  refine Ctr.ofZ (lv := [(0, va_rf (some this)), (1, .int p1)]) (by decide +kernel) (by simp [cat_i, cat_l, cat_d, cat_rf]) rfl fun X Z => ?_
  unfold pX13_flips at hf
  replace hf := tg_i hf
  obtain ⟨t0, hf⟩ := hf
  refine J_aload_n Z.1 0 dX13_flips_0 rfl rfl ?_
  refine J_get (v := va_rf (hR h this 19)) Z.1 dX13_flips_1 fl_X13_31 t0 rfl ?_
  refine J_tr (fun r1 er1 => ?_)
  replace hf := lt_i hf r1 er1
  refine J_iconst Z.1 (v := 3) (by decide) dX13_flips_4 ?_
  refine J_dup2 Z.1 dX13_flips_5 (by simp [cat_i, cat_l, cat_d, cat_rf]) (by simp [cat_i, cat_l, cat_d, cat_rf]) ?_
  replace hf := nn_i hf
  obtain ⟨a1, rfl, hf⟩ := hf
  replace hf := tg_i hf
  obtain ⟨t2, hf⟩ := hf
  replace hf := ix_i hf
  obtain ⟨i3, hf⟩ := hf
  refine J_iaload Z.1 dX13_flips_6 t2 i3 ?_
  refine J_iconst Z.1 (v := 1) (by decide) dX13_flips_7 ?_
  refine J_aload_n Z.1 0 dX13_flips_8 rfl rfl ?_
  refine J_get (v := va_rf (hR h this 19)) Z.1 dX13_flips_9 fl_X13_31 t0 rfl ?_
  refine J_tr (fun r4 er4 => ?_)
  replace hf := lt_i hf r4 er4
  refine J_iconst Z.1 (v := 0) (by decide) dX13_flips_12 ?_
  replace hf := nn_i hf
  obtain ⟨a4, rfl, hf⟩ := hf
  replace hf := tg_i hf
  obtain ⟨t5, hf⟩ := hf
  replace hf := ix_i hf
  obtain ⟨i6, hf⟩ := hf
  refine J_iaload Z.1 dX13_flips_13 t5 i6 ?_
  refine J_ishl Z.1 dX13_flips_14 ?_
  refine J_iconst Z.1 (v := 1) (by decide) dX13_flips_15 ?_
  refine J_isub Z.1 dX13_flips_16 ?_
  refine J_ixor Z.1 dX13_flips_17 ?_
  replace hf := ix_i hf
  obtain ⟨i7, hf⟩ := hf
  refine J_iastore Z.1 dX13_flips_18 t2 i7 ?_
  refine J_th (fun h8 eh8 => ?_)
  replace hf := lt_i hf h8 eh8
  refine J_aload_n Z.1 0 dX13_flips_19 rfl rfl ?_
  refine J_aload_n Z.1 0 dX13_flips_20 rfl rfl ?_
  refine J_get (v := .int (hI h8 this 30)) Z.1 dX13_flips_21 fl_X13_407 t0 rfl ?_
  refine J_iload_n Z.1 1 dX13_flips_24 rfl rfl ?_
  refine J_callS (as := [.int (hI h8 this 30), .int p1]) (rest := [va_rf (some this)]) (sy := [.int (pJ9_max_7cf53 (hI h8 this 30) p1), va_rf (some this)]) Z.1 dX13_flips_25 cw_X13_178 (pJ9_max_7cf53_ok G (dk - 1) (by omega) g h8 (hI h8 this 30) p1) (zG Z) rfl (by simp [cat_i, cat_l, cat_d, cat_rf]) (zF Z (by omega)) (zO Z (by omega) (by decide)) (zM _) Z.2.1 Z.2.1 rfl rfl ?_
  refine J_putI Z.1 dX13_flips_28 fl_X13_407 (fun q => by cases q) t0 rfl rfl (congrArg Value.int (hI_s _ _ _ _)) ?_
  refine J_th (fun h9 eh9 => ?_)
  replace hf := lt_i hf h9 eh9
  refine J_aload_n Z.1 0 dX13_flips_31 rfl rfl ?_
  refine J_iload_n Z.1 1 dX13_flips_32 rfl rfl ?_
  refine J_iconst Z.1 (v := 1) (by decide) dX13_flips_33 ?_
  refine J_iadd Z.1 dX13_flips_34 ?_
  refine J_putI Z.1 dX13_flips_35 fl_X13_404 (fun q => by cases q) t0 rfl rfl (congrArg Value.int (hI_s _ _ _ _)) ?_
  refine J_th (fun h10 eh10 => ?_)
  replace hf := lt_i hf h10 eh10
  refine J_aload_n Z.1 0 dX13_flips_38 rfl rfl ?_
  refine J_aload_n Z.1 0 dX13_flips_39 rfl rfl ?_
  refine J_get (v := .int (hI h10 this 29)) Z.1 dX13_flips_40 fl_X13_404 t0 rfl ?_
  replace hf := bd_i hf
  obtain ⟨h11, q12, hf⟩ := hf
  refine J_callV (ci := 11) (as := [.int (hI h10 this 29)]) (rest := []) (sy := []) Z.1 dX13_flips_43 cw_X13_478 (pX13_lasts_ok G (dk - 1) (by omega) q12) rfl rfl t0 (zG Z) rfl (by decide) (zF Z (by omega)) (zO Z (by omega) (by decide)) (zM _) Z.2.1 Z.2.1 rfl rfl ?_
  cases hf
  exact J_vret Z.1 Z.2.2.2.2.2 dX13_flips_46
theorem dX13_begins_0 : decode cX13_begins 0 = .ok (.aload_n 0, 1) := by decide +kernel
theorem dX13_begins_1 : decode cX13_begins 1 = .ok (.iload_n 1, 1) := by decide +kernel
theorem dX13_begins_2 : decode cX13_begins 2 = .ok (.putfield 398, 3) := by decide +kernel
theorem dX13_begins_5 : decode cX13_begins 5 = .ok (.aload_n 0, 1) := by decide +kernel
theorem dX13_begins_6 : decode cX13_begins 6 = .ok (.iload_n 1, 1) := by decide +kernel
theorem dX13_begins_7 : decode cX13_begins 7 = .ok (.invokevirtual 478, 3) := by decide +kernel
theorem dX13_begins_10 : decode cX13_begins 10 = .ok (.return_, 1) := by decide +kernel
def pX13_begins (g : MT) (h : CT) (this : Nat) (p1 : Int32) : Option CT := tg g this 12 (lt (sI h this 32 p1) fun h1 => (bd (pX13_lasts g h1 this p1) fun h2 => (some h2)))
set_option maxRecDepth 10000 in
set_option maxHeartbeats 4000000 in
theorem pX13_begins_ok (G : Gx) (dk : Nat) (hK : 2 ≤ dk) {g : MT} {h h0 : CT} {this : Nat} {p1 : Int32} (hf : pX13_begins g h this p1 = some h0) : Ctr G dk yX13_begins cX13_begins 2 none [va_rf (some this), .int p1] g h none g h0 := by
  refine Ctr.ofZ (lv := [(0, va_rf (some this)), (1, .int p1)]) (by decide +kernel) (by simp [cat_i, cat_l, cat_d, cat_rf]) rfl fun X Z => ?_
  unfold pX13_begins at hf
  replace hf := tg_i hf
  obtain ⟨t0, hf⟩ := hf
  refine J_aload_n Z.1 0 dX13_begins_0 rfl rfl ?_
  refine J_iload_n Z.1 1 dX13_begins_1 rfl rfl ?_
  refine J_putI Z.1 dX13_begins_2 fl_X13_398 (fun q => by cases q) t0 rfl rfl (congrArg Value.int (hI_s _ _ _ _)) ?_
  refine J_th (fun h1 eh1 => ?_)
  replace hf := lt_i hf h1 eh1
  refine J_aload_n Z.1 0 dX13_begins_5 rfl rfl ?_
  refine J_iload_n Z.1 1 dX13_begins_6 rfl rfl ?_
  replace hf := bd_i hf
  obtain ⟨h2, q3, hf⟩ := hf
  refine J_callV (ci := 11) (as := [.int p1]) (rest := []) (sy := []) Z.1 dX13_begins_7 cw_X13_478 (pX13_lasts_ok G (dk - 1) (by omega) q3) rfl rfl t0 (zG Z) rfl (by decide) (zF Z (by omega)) (zO Z (by omega) (by decide)) (zM _) Z.2.1 Z.2.1 rfl rfl ?_
  cases hf
  exact J_vret Z.1 Z.2.2.2.2.2 dX13_begins_10
theorem dX13_answer_0 : decode cX13_answer 0 = .ok (.iload_n 1, 1) := by decide +kernel
theorem dX13_answer_1 : decode cX13_answer 1 = .ok (.ifCond .ge 12, 3) := by decide +kernel
theorem dX13_answer_4 : decode cX13_answer 4 = .ok (.aload_n 0, 1) := by decide +kernel
theorem dX13_answer_5 : decode cX13_answer 5 = .ok (.bipush 8, 2) := by decide +kernel
theorem dX13_answer_7 : decode cX13_answer 7 = .ok (.invokevirtual 268, 3) := by decide +kernel
theorem dX13_answer_10 : decode cX13_answer 10 = .ok (.goto 4, 3) := by decide +kernel
theorem dX13_answer_13 : decode cX13_answer 13 = .ok (.iload_n 1, 1) := by decide +kernel
theorem dX13_answer_14 : decode cX13_answer 14 = .ok (.ireturn, 1) := by decide +kernel
def pX13_answer (g : MT) (h : CT) (this : Nat) (p1 : Int32) : Option ((Int32) × CT) := tg g this 12 (if 0 ≤ p1 then some (p1, h) else bd2 (pX13_refuse g h this 8) fun x4 h2 => (some (x4, h2)))
set_option maxRecDepth 10000 in
set_option maxHeartbeats 4000000 in
theorem pX13_answer_ok (G : Gx) (dk : Nat) (hK : 1 ≤ dk) {g : MT} {h h0 : CT} {this : Nat} {p1 : Int32} {r0 : Int32} (hf : pX13_answer g h this p1 = some (r0, h0)) : Ctr G dk yX13_answer cX13_answer 2 (some .int) [va_rf (some this), .int p1] g h (some (.int r0)) g h0 := by
  refine Ctr.ofZ (lv := [(0, va_rf (some this)), (1, .int p1)]) (by decide +kernel) (by simp [cat_i, cat_l, cat_d, cat_rf]) rfl fun X Z => ?_
  unfold pX13_answer at hf
  replace hf := tg_i hf
  obtain ⟨t0, hf⟩ := hf
  refine J_iload_n Z.1 1 dX13_answer_0 rfl rfl ?_
  refine J_if_ge Z.1 13 dX13_answer_1 (by decide) (fun c1 => ?_) (fun c1 => ?_)
  · rw [if_pos c1] at hf
    refine J_iload_n Z.1 1 dX13_answer_13 rfl rfl ?_
    cases hf
    exact J_iret Z.1 Z.2.2.2.2.2 dX13_answer_14
  · rw [if_neg c1] at hf
    refine J_aload_n Z.1 0 dX13_answer_4 rfl rfl ?_
    refine J_bipush Z.1 (v := 8) (by decide) dX13_answer_5 ?_
    replace hf := bd2_i hf
    obtain ⟨x4, h2, q3, hf⟩ := hf
    refine J_callV (ci := 11) (as := [.int 8]) (rest := []) (sy := [.int x4]) Z.1 dX13_answer_7 cw_X13_268 (pX13_refuse_ok G (dk - 1) (by omega) q3) rfl rfl t0 (zG Z) rfl (by decide) (zF Z (by omega)) (zO Z (by omega) (by decide)) (zM _) Z.2.1 Z.2.1 rfl rfl ?_
    refine J_goto Z.1 14 dX13_answer_10 (by decide) ?_
    cases hf
    exact J_iret Z.1 Z.2.2.2.2.2 dX13_answer_14
