/-! written by wip/whole/gen.py out of the printed bytecode -/
theorem dX12_pour_0 : decode cX12_pour 0 = .ok (.iload_n 1, 1) := by decide +kernel
theorem dX12_pour_1 : decode cX12_pour 1 = .ok (.invokestatic 113, 3) := by decide +kernel
theorem dX12_pour_4 : decode cX12_pour 4 = .ok (.ifCond .eq 10, 3) := by decide +kernel
theorem dX12_pour_7 : decode cX12_pour 7 = .ok (.iload_n 3, 1) := by decide +kernel
theorem dX12_pour_8 : decode cX12_pour 8 = .ok (.invokestatic 113, 3) := by decide +kernel
theorem dX12_pour_11 : decode cX12_pour 11 = .ok (.ifCond .ne 9, 3) := by decide +kernel
theorem dX12_pour_14 : decode cX12_pour 14 = .ok (.aload_n 0, 1) := by decide +kernel
theorem dX12_pour_15 : decode cX12_pour 15 = .ok (.iconst 1, 1) := by decide +kernel
theorem dX12_pour_16 : decode cX12_pour 16 = .ok (.invokevirtual 117, 3) := by decide +kernel
theorem dX12_pour_19 : decode cX12_pour 19 = .ok (.ireturn, 1) := by decide +kernel
theorem dX12_pour_20 : decode cX12_pour 20 = .ok (.aload_n 0, 1) := by decide +kernel
theorem dX12_pour_21 : decode cX12_pour 21 = .ok (.getfield 11, 3) := by decide +kernel
theorem dX12_pour_24 : decode cX12_pour 24 = .ok (.iload_n 1, 1) := by decide +kernel
theorem dX12_pour_25 : decode cX12_pour 25 = .ok (.aaload, 1) := by decide +kernel
theorem dX12_pour_26 : decode cX12_pour 26 = .ok (.astore 6, 2) := by decide +kernel
theorem dX12_pour_28 : decode cX12_pour 28 = .ok (.aload_n 0, 1) := by decide +kernel
theorem dX12_pour_29 : decode cX12_pour 29 = .ok (.getfield 11, 3) := by decide +kernel
theorem dX12_pour_32 : decode cX12_pour 32 = .ok (.iload_n 3, 1) := by decide +kernel
theorem dX12_pour_33 : decode cX12_pour 33 = .ok (.aaload, 1) := by decide +kernel
theorem dX12_pour_34 : decode cX12_pour 34 = .ok (.astore 7, 2) := by decide +kernel
theorem dX12_pour_36 : decode cX12_pour 36 = .ok (.aload 6, 2) := by decide +kernel
theorem dX12_pour_38 : decode cX12_pour 38 = .ok (.getfield 128, 3) := by decide +kernel
theorem dX12_pour_41 : decode cX12_pour 41 = .ok (.ifCond .eq 11, 3) := by decide +kernel
theorem dX12_pour_44 : decode cX12_pour 44 = .ok (.aload 7, 2) := by decide +kernel
theorem dX12_pour_46 : decode cX12_pour 46 = .ok (.getfield 128, 3) := by decide +kernel
theorem dX12_pour_49 : decode cX12_pour 49 = .ok (.ifCond .ne 9, 3) := by decide +kernel
theorem dX12_pour_52 : decode cX12_pour 52 = .ok (.aload_n 0, 1) := by decide +kernel
theorem dX12_pour_53 : decode cX12_pour 53 = .ok (.iconst 3, 1) := by decide +kernel
theorem dX12_pour_54 : decode cX12_pour 54 = .ok (.invokevirtual 117, 3) := by decide +kernel
theorem dX12_pour_57 : decode cX12_pour 57 = .ok (.ireturn, 1) := by decide +kernel
theorem dX12_pour_58 : decode cX12_pour 58 = .ok (.aload 6, 2) := by decide +kernel
theorem dX12_pour_60 : decode cX12_pour 60 = .ok (.getfield 150, 3) := by decide +kernel
theorem dX12_pour_63 : decode cX12_pour 63 = .ok (.aload 7, 2) := by decide +kernel
theorem dX12_pour_65 : decode cX12_pour 65 = .ok (.getfield 150, 3) := by decide +kernel
theorem dX12_pour_68 : decode cX12_pour 68 = .ok (.if_icmp .eq 10, 3) := by decide +kernel
theorem dX12_pour_71 : decode cX12_pour 71 = .ok (.aload_n 0, 1) := by decide +kernel
theorem dX12_pour_72 : decode cX12_pour 72 = .ok (.bipush 11, 2) := by decide +kernel
theorem dX12_pour_74 : decode cX12_pour 74 = .ok (.invokevirtual 117, 3) := by decide +kernel
theorem dX12_pour_77 : decode cX12_pour 77 = .ok (.ireturn, 1) := by decide +kernel
theorem dX12_pour_78 : decode cX12_pour 78 = .ok (.iload 5, 2) := by decide +kernel
theorem dX12_pour_80 : decode cX12_pour 80 = .ok (.ifCond .ge 10, 3) := by decide +kernel
theorem dX12_pour_83 : decode cX12_pour 83 = .ok (.aload_n 0, 1) := by decide +kernel
theorem dX12_pour_84 : decode cX12_pour 84 = .ok (.bipush 6, 2) := by decide +kernel
theorem dX12_pour_86 : decode cX12_pour 86 = .ok (.invokevirtual 117, 3) := by decide +kernel
theorem dX12_pour_89 : decode cX12_pour 89 = .ok (.ireturn, 1) := by decide +kernel
theorem dX12_pour_90 : decode cX12_pour 90 = .ok (.aload 6, 2) := by decide +kernel
theorem dX12_pour_92 : decode cX12_pour 92 = .ok (.iload_n 2, 1) := by decide +kernel
theorem dX12_pour_93 : decode cX12_pour 93 = .ok (.iload 5, 2) := by decide +kernel
theorem dX12_pour_95 : decode cX12_pour 95 = .ok (.invokevirtual 153, 3) := by decide +kernel
theorem dX12_pour_98 : decode cX12_pour 98 = .ok (.ifCond .eq 15, 3) := by decide +kernel
theorem dX12_pour_101 : decode cX12_pour 101 = .ok (.aload 7, 2) := by decide +kernel
theorem dX12_pour_103 : decode cX12_pour 103 = .ok (.iload 4, 2) := by decide +kernel
theorem dX12_pour_105 : decode cX12_pour 105 = .ok (.iload 5, 2) := by decide +kernel
theorem dX12_pour_107 : decode cX12_pour 107 = .ok (.invokevirtual 153, 3) := by decide +kernel
theorem dX12_pour_110 : decode cX12_pour 110 = .ok (.ifCond .ne 9, 3) := by decide +kernel
theorem dX12_pour_113 : decode cX12_pour 113 = .ok (.aload_n 0, 1) := by decide +kernel
theorem dX12_pour_114 : decode cX12_pour 114 = .ok (.iconst 4, 1) := by decide +kernel
theorem dX12_pour_115 : decode cX12_pour 115 = .ok (.invokevirtual 117, 3) := by decide +kernel
theorem dX12_pour_118 : decode cX12_pour 118 = .ok (.ireturn, 1) := by decide +kernel
theorem dX12_pour_119 : decode cX12_pour 119 = .ok (.aload 6, 2) := by decide +kernel
theorem dX12_pour_121 : decode cX12_pour 121 = .ok (.getfield 157, 3) := by decide +kernel
theorem dX12_pour_124 : decode cX12_pour 124 = .ok (.iload_n 2, 1) := by decide +kernel
theorem dX12_pour_125 : decode cX12_pour 125 = .ok (.aload 7, 2) := by decide +kernel
theorem dX12_pour_127 : decode cX12_pour 127 = .ok (.getfield 157, 3) := by decide +kernel
theorem dX12_pour_130 : decode cX12_pour 130 = .ok (.iload 4, 2) := by decide +kernel
theorem dX12_pour_132 : decode cX12_pour 132 = .ok (.iload 5, 2) := by decide +kernel
theorem dX12_pour_134 : decode cX12_pour 134 = .ok (.invokestatic 161, 3) := by decide +kernel
theorem dX12_pour_137 : decode cX12_pour 137 = .ok (.aload_n 0, 1) := by decide +kernel
theorem dX12_pour_138 : decode cX12_pour 138 = .ok (.invokevirtual 124, 3) := by decide +kernel
theorem dX12_pour_141 : decode cX12_pour 141 = .ok (.ireturn, 1) := by decide +kernel
def pX12_pour_b14 (g : MT) (this : Nat) (p1 : Int32) (p2 : Int32) (p3 : Int32) (p4 : Int32) (p5 : Int32) (h : CT) : Option ((Int32) × CT) := bd2 (pX12_deny g h this 1) fun x3 h1 => (bz x3 (some (x3, h1)))
set_option maxRecDepth 10000 in
set_option maxHeartbeats 4000000 in
theorem pX12_pour_b14_ok {X : Cx} {G : Gx} {dk : Nat} {g : MT} {r0 : Int32} {h0 : CT} {this : Nat} {p1 : Int32} {p2 : Int32} {p3 : Int32} {p4 : Int32} {p5 : Int32} (Z : Zx X G cX12_pour RX12 8 dk (some .boolean) (some (.int r0)) g h0) (hK : 2 ≤ dk) (t0 : gT g this = 11) (h : CT) (hf : pX12_pour_b14 g this p1 p2 p3 p4 p5 h = some (r0, h0)) : J X g h 14 [(0, va_rf (some this))] [] := by
  unfold pX12_pour_b14 at hf
  refine J_aload_n Z.1 0 dX12_pour_14 rfl rfl ?_
  refine J_iconst Z.1 (v := 1) (by decide) dX12_pour_15 ?_
  obtain ⟨x3, h1, q2, hf⟩ := bd2_i hf
  refine J_callV (ci := 10) (as := [.int 1]) (rest := []) (sy := [.int x3]) Z.1 dX12_pour_16 cw_X12_117 (pX12_deny_ok G (dk - 1) (by omega) q2) rfl rfl t0 (zG Z) rfl (by decide) (zF Z (by omega)) (zO Z (by omega) (by decide)) (zM _) Z.2.1 Z.2.1 rfl rfl ?_
  obtain ⟨z4, hf⟩ := bz_i hf
  cases hf
  exact J_zret Z.1 Z.2.2.2.2.2 (z_n z4) dX12_pour_19
def pX12_pour_b52 (g : MT) (this : Nat) (p1 : Int32) (p2 : Int32) (p3 : Int32) (p4 : Int32) (p5 : Int32) (h : CT) : Option ((Int32) × CT) := bd2 (pX12_deny g h this 3) fun x3 h1 => (bz x3 (some (x3, h1)))
set_option maxRecDepth 10000 in
set_option maxHeartbeats 4000000 in
theorem pX12_pour_b52_ok {X : Cx} {G : Gx} {dk : Nat} {g : MT} {r0 : Int32} {h0 : CT} {this : Nat} {p1 : Int32} {p2 : Int32} {p3 : Int32} {p4 : Int32} {p5 : Int32} (Z : Zx X G cX12_pour RX12 8 dk (some .boolean) (some (.int r0)) g h0) (hK : 2 ≤ dk) (t0 : gT g this = 11) (h : CT) (hf : pX12_pour_b52 g this p1 p2 p3 p4 p5 h = some (r0, h0)) : J X g h 52 [(0, va_rf (some this))] [] := by
  unfold pX12_pour_b52 at hf
  refine J_aload_n Z.1 0 dX12_pour_52 rfl rfl ?_
  refine J_iconst Z.1 (v := 3) (by decide) dX12_pour_53 ?_
  obtain ⟨x3, h1, q2, hf⟩ := bd2_i hf
  refine J_callV (ci := 10) (as := [.int 3]) (rest := []) (sy := [.int x3]) Z.1 dX12_pour_54 cw_X12_117 (pX12_deny_ok G (dk - 1) (by omega) q2) rfl rfl t0 (zG Z) rfl (by decide) (zF Z (by omega)) (zO Z (by omega) (by decide)) (zM _) Z.2.1 Z.2.1 rfl rfl ?_
  obtain ⟨z4, hf⟩ := bz_i hf
  cases hf
  exact J_zret Z.1 Z.2.2.2.2.2 (z_n z4) dX12_pour_57
def pX12_pour_b113 (g : MT) (this : Nat) (p1 : Int32) (p2 : Int32) (p3 : Int32) (p4 : Int32) (p5 : Int32) (h : CT) : Option ((Int32) × CT) := bd2 (pX12_deny g h this 4) fun x3 h1 => (bz x3 (some (x3, h1)))
set_option maxRecDepth 10000 in
set_option maxHeartbeats 4000000 in
theorem pX12_pour_b113_ok {X : Cx} {G : Gx} {dk : Nat} {g : MT} {r0 : Int32} {h0 : CT} {this : Nat} {p1 : Int32} {p2 : Int32} {p3 : Int32} {p4 : Int32} {p5 : Int32} (Z : Zx X G cX12_pour RX12 8 dk (some .boolean) (some (.int r0)) g h0) (hK : 2 ≤ dk) (t0 : gT g this = 11) (h : CT) (hf : pX12_pour_b113 g this p1 p2 p3 p4 p5 h = some (r0, h0)) : J X g h 113 [(0, va_rf (some this))] [] := by
  unfold pX12_pour_b113 at hf
  refine J_aload_n Z.1 0 dX12_pour_113 rfl rfl ?_
  refine J_iconst Z.1 (v := 4) (by decide) dX12_pour_114 ?_
  obtain ⟨x3, h1, q2, hf⟩ := bd2_i hf
  refine J_callV (ci := 10) (as := [.int 4]) (rest := []) (sy := [.int x3]) Z.1 dX12_pour_115 cw_X12_117 (pX12_deny_ok G (dk - 1) (by omega) q2) rfl rfl t0 (zG Z) rfl (by decide) (zF Z (by omega)) (zO Z (by omega) (by decide)) (zM _) Z.2.1 Z.2.1 rfl rfl ?_
  obtain ⟨z4, hf⟩ := bz_i hf
  cases hf
  exact J_zret Z.1 Z.2.2.2.2.2 (z_n z4) dX12_pour_118
def pX12_pour (g : MT) (h : CT) (this : Nat) (p1 : Int32) (p2 : Int32) (p3 : Int32) (p4 : Int32) (p5 : Int32) : Option ((Int32) × CT) := tg g this 11 (if (pX12_isTray p1) = 0 then pX12_pour_b14 g this p1 p2 p3 p4 p5  h else if (pX12_isTray p3) = 0 then pX12_pour_b14 g this p1 p2 p3 p4 p5  h else lt (hR h this 0) fun r3 => (nn r3 fun a3 => (tg g a3 28 (ix (gL g a3) p1 (lt (hR h a3 (Int32.toNatClampNeg p1)) fun r6 => (lt (hR h this 0) fun r7 => (nn r7 fun a7 => (tg g a7 28 (ix (gL g a7) p3 (lt (hR h a7 (Int32.toNatClampNeg p3)) fun r10 => (nn r6 fun a6 => (tg g a6 10 (if (hI h a6 0) = 0 then pX12_pour_b52 g this p1 p2 p3 p4 p5  h else nn r10 fun a10 => (tg g a10 10 (if (hI h a10 0) = 0 then pX12_pour_b52 g this p1 p2 p3 p4 p5  h else if (hI h a6 1) = (hI h a10 1) then if 0 ≤ p5 then bd (pX11_holds g h a6 p2 p5) fun x17 => (if x17 = 0 then pX12_pour_b113 g this p1 p2 p3 p4 p5  h else bd (pX11_holds g h a10 p4 p5) fun x20 => (if x20 = 0 then pX12_pour_b113 g this p1 p2 p3 p4 p5  h else lt (hR h a6 3) fun r23 => (lt (hR h a10 3) fun r24 => (nn r23 fun a23 => (nn r24 fun a24 => (tg g a23 21 (tg g a24 21 (cpk p2 p4 p5 (gL g a23) (gL g a24) (lt (cpL h a23 a24 (Int32.toNatClampNeg p2) (Int32.toNatClampNeg p4) (Int32.toNatClampNeg p5)) fun h28 => (bd2 (pX12_agree g h28 this) fun x31 h29 => (bz x31 (some (x31, h29))))))))))))) else bd2 (pX12_deny g h this 6) fun x35 h33 => (bz x35 (some (x35, h33))) else bd2 (pX12_deny g h this 11) fun x39 h37 => (bz x39 (some (x39, h37))))))))))))))))))
set_option maxRecDepth 10000 in
set_option maxHeartbeats 4000000 in
theorem pX12_pour_ok (G : Gx) (dk : Nat) (hK : 2 ≤ dk) {g : MT} {h h0 : CT} {this : Nat} {p1 : Int32} {p2 : Int32} {p3 : Int32} {p4 : Int32} {p5 : Int32} {r0 : Int32} (hf : pX12_pour g h this p1 p2 p3 p4 p5 = some (r0, h0)) : Ctr G dk yX12_pour cX12_pour 8 (some .boolean) [va_rf (some this), .int p1, .int p2, .int p3, .int p4, .int p5] g h (some (.int r0)) g h0 := by
  refine Ctr.ofZ (lv := [(0, va_rf (some this)), (1, .int p1), (2, .int p2), (3, .int p3), (4, .int p4), (5, .int p5)]) (by decide +kernel) (by simp [cat_i, cat_l, cat_d, cat_rf]) rfl fun X Z => ?_
  unfold pX12_pour at hf
  obtain ⟨t0, hf⟩ := tg_i hf
  refine J_iload_n Z.1 1 dX12_pour_0 rfl rfl ?_
  refine J_callS (as := [.int p1]) (rest := []) (sy := [.int (pX12_isTray p1)]) Z.1 dX12_pour_1 cw_X12_113 (pX12_isTray_ok G (dk - 1) (by omega) g h p1) (zG Z) rfl (by decide) (zF Z (by omega)) (zO Z (by omega) (by decide)) (zM _) Z.2.1 Z.2.1 rfl rfl ?_
  refine J_if_eq Z.1 14 dX12_pour_4 (by decide) (fun c1 => ?_) (fun c1 => ?_)
  · rw [if_pos c1] at hf
    refine J_lv [0] rfl ?_
    exact pX12_pour_b14_ok Z hK t0  _ hf
  · rw [if_neg c1] at hf
    refine J_iload_n Z.1 3 dX12_pour_7 rfl rfl ?_
    refine J_callS (as := [.int p3]) (rest := []) (sy := [.int (pX12_isTray p3)]) Z.1 dX12_pour_8 cw_X12_113 (pX12_isTray_ok G (dk - 1) (by omega) g h p3) (zG Z) rfl (by decide) (zF Z (by omega)) (zO Z (by omega) (by decide)) (zM _) Z.2.1 Z.2.1 rfl rfl ?_
    refine J_if_ne Z.1 20 dX12_pour_11 (by decide) (fun c2 => ?_) (fun c2 => ?_)
    · rw [if_neg c2] at hf
      refine J_aload_n Z.1 0 dX12_pour_20 rfl rfl ?_
      refine J_get (v := va_rf (hR h this 0)) Z.1 dX12_pour_21 fl_X12_11 t0 rfl ?_
      refine J_tr (fun r3 er3 => ?_)
      replace hf := lt_i hf r3 er3
      refine J_iload_n Z.1 1 dX12_pour_24 rfl rfl ?_
      replace hf := nn_i hf
      obtain ⟨a3, rfl, hf⟩ := hf
      obtain ⟨t4, hf⟩ := tg_i hf
      obtain ⟨i5, hf⟩ := ix_i hf
      refine J_aaload (t := 8) Z.1 dX12_pour_25 t4 rfl i5 ?_
      refine J_tr (fun r6 er6 => ?_)
      replace hf := lt_i hf r6 er6
      refine J_astore Z.1 (lv2 := [(6, va_rf r6), (0, va_rf (some this)), (1, .int p1), (2, .int p2), (3, .int p3), (4, .int p4), (5, .int p5)]) dX12_pour_26 (zL Z (by decide)) rfl ?_
      refine J_aload_n Z.1 1 dX12_pour_28 rfl rfl ?_
      refine J_get (v := va_rf (hR h this 0)) Z.1 dX12_pour_29 fl_X12_11 t0 rfl ?_
      refine J_tr (fun r7 er7 => ?_)
      replace hf := lt_i hf r7 er7
      refine J_iload_n Z.1 4 dX12_pour_32 rfl rfl ?_
      replace hf := nn_i hf
      obtain ⟨a7, rfl, hf⟩ := hf
      obtain ⟨t8, hf⟩ := tg_i hf
      obtain ⟨i9, hf⟩ := ix_i hf
      refine J_aaload (t := 8) Z.1 dX12_pour_33 t8 rfl i9 ?_
      refine J_tr (fun r10 er10 => ?_)
      replace hf := lt_i hf r10 er10
      refine J_astore Z.1 (lv2 := [(7, va_rf r10), (6, va_rf r6), (0, va_rf (some this)), (1, .int p1), (2, .int p2), (3, .int p3), (4, .int p4), (5, .int p5)]) dX12_pour_34 (zL Z (by decide)) rfl ?_
      refine J_aload Z.1 1 dX12_pour_36 rfl ?_
      replace hf := nn_i hf
      obtain ⟨a6, rfl, hf⟩ := hf
      obtain ⟨t11, hf⟩ := tg_i hf
      refine J_get (v := .int (hI h a6 0)) Z.1 dX12_pour_38 fl_X12_128 t11 rfl ?_
      refine J_if_eq Z.1 52 dX12_pour_41 (by decide) (fun c12 => ?_) (fun c12 => ?_)
      · rw [if_pos c12] at hf
        refine J_lv [2] rfl ?_
        exact pX12_pour_b52_ok Z hK t0  _ hf
      · rw [if_neg c12] at hf
        refine J_aload Z.1 0 dX12_pour_44 rfl ?_
        replace hf := nn_i hf
        obtain ⟨a10, rfl, hf⟩ := hf
        obtain ⟨t13, hf⟩ := tg_i hf
        refine J_get (v := .int (hI h a10 0)) Z.1 dX12_pour_46 fl_X12_128 t13 rfl ?_
        refine J_if_ne Z.1 58 dX12_pour_49 (by decide) (fun c14 => ?_) (fun c14 => ?_)
        · rw [if_neg c14] at hf
          refine J_aload Z.1 1 dX12_pour_58 rfl ?_
          refine J_get (v := .int (hI h a6 1)) Z.1 dX12_pour_60 fl_X12_150 t11 rfl ?_
          refine J_aload Z.1 0 dX12_pour_63 rfl ?_
          refine J_get (v := .int (hI h a10 1)) Z.1 dX12_pour_65 fl_X12_150 t13 rfl ?_
          refine J_icmp_eq Z.1 78 dX12_pour_68 (by decide) (fun c15 => ?_) (fun c15 => ?_)
          · rw [if_pos c15] at hf
            refine J_iload Z.1 7 dX12_pour_78 rfl ?_
            refine J_if_ge Z.1 90 dX12_pour_80 (by decide) (fun c16 => ?_) (fun c16 => ?_)
            · rw [if_pos c16] at hf
              refine J_aload Z.1 1 dX12_pour_90 rfl ?_
              refine J_iload_n Z.1 4 dX12_pour_92 rfl rfl ?_
              refine J_iload Z.1 7 dX12_pour_93 rfl ?_
              obtain ⟨x17, q18, hf⟩ := bd_i hf
              refine J_callV (ci := 9) (as := [.int p2, .int p5]) (rest := []) (sy := [.int x17]) Z.1 dX12_pour_95 cw_X12_153 (pX11_holds_ok G (dk - 1) (by omega) q18) rfl rfl t11 (zG Z) rfl (by decide) (zF Z (by omega)) (zO Z (by omega) (by decide)) (zM _) Z.2.1 Z.2.1 rfl rfl ?_
              refine J_if_eq Z.1 113 dX12_pour_98 (by decide) (fun c19 => ?_) (fun c19 => ?_)
              · rw [if_pos c19] at hf
                refine J_lv [2] rfl ?_
                exact pX12_pour_b113_ok Z hK t0  _ hf
              · rw [if_neg c19] at hf
                refine J_aload Z.1 0 dX12_pour_101 rfl ?_
                refine J_iload Z.1 6 dX12_pour_103 rfl ?_
                refine J_iload Z.1 7 dX12_pour_105 rfl ?_
                obtain ⟨x20, q21, hf⟩ := bd_i hf
                refine J_callV (ci := 9) (as := [.int p4, .int p5]) (rest := []) (sy := [.int x20]) Z.1 dX12_pour_107 cw_X12_153 (pX11_holds_ok G (dk - 1) (by omega) q21) rfl rfl t13 (zG Z) rfl (by decide) (zF Z (by omega)) (zO Z (by omega) (by decide)) (zM _) Z.2.1 Z.2.1 rfl rfl ?_
                refine J_if_ne Z.1 119 dX12_pour_110 (by decide) (fun c22 => ?_) (fun c22 => ?_)
                · rw [if_neg c22] at hf
                  refine J_aload Z.1 1 dX12_pour_119 rfl ?_
                  refine J_get (v := va_rf (hR h a6 3)) Z.1 dX12_pour_121 fl_X12_157 t11 rfl ?_
                  refine J_tr (fun r23 er23 => ?_)
                  replace hf := lt_i hf r23 er23
                  refine J_iload_n Z.1 4 dX12_pour_124 rfl rfl ?_
                  refine J_aload Z.1 0 dX12_pour_125 rfl ?_
                  refine J_get (v := va_rf (hR h a10 3)) Z.1 dX12_pour_127 fl_X12_157 t13 rfl ?_
                  refine J_tr (fun r24 er24 => ?_)
                  replace hf := lt_i hf r24 er24
                  refine J_iload Z.1 6 dX12_pour_130 rfl ?_
                  refine J_iload Z.1 7 dX12_pour_132 rfl ?_
                  replace hf := nn_i hf
                  obtain ⟨a23, rfl, hf⟩ := hf
                  replace hf := nn_i hf
                  obtain ⟨a24, rfl, hf⟩ := hf
                  obtain ⟨t25, hf⟩ := tg_i hf
                  obtain ⟨t26, hf⟩ := tg_i hf
                  obtain ⟨z27, hf⟩ := cpk_i hf
                  refine J_copyL Z.1 dX12_pour_134 q_629 q_631 q_630 q_150 t25 t26 z27.1 z27.2.1 z27.2.2.1 z27.2.2.2.1 z27.2.2.2.2 (zF Z (d := 0) (by omega)) (zO4 Z (by omega) (by simp [cat_i, cat_l, cat_d, cat_rf])) ?_
                  refine J_th (fun h28 eh28 => ?_)
                  replace hf := lt_i hf h28 eh28
                  refine J_aload_n Z.1 2 dX12_pour_137 rfl rfl ?_
                  obtain ⟨x31, h29, q30, hf⟩ := bd2_i hf
                  refine J_callV (ci := 10) (as := []) (rest := []) (sy := [.int x31]) Z.1 dX12_pour_138 cw_X12_124 (pX12_agree_ok G (dk - 1) (by omega) q30) rfl rfl t0 (zG Z) rfl (by decide) (zF Z (by omega)) (zO Z (by omega) (by decide)) (zM _) Z.2.1 Z.2.1 rfl rfl ?_
                  obtain ⟨z32, hf⟩ := bz_i hf
                  cases hf
                  exact J_zret Z.1 Z.2.2.2.2.2 (z_n z32) dX12_pour_141
                · rw [if_pos c22] at hf
                  refine J_lv [2] rfl ?_
                  exact pX12_pour_b113_ok Z hK t0  _ hf
            · rw [if_neg c16] at hf
              refine J_aload_n Z.1 2 dX12_pour_83 rfl rfl ?_
              refine J_bipush Z.1 (v := 6) (by decide) dX12_pour_84 ?_
              obtain ⟨x35, h33, q34, hf⟩ := bd2_i hf
              refine J_callV (ci := 10) (as := [.int 6]) (rest := []) (sy := [.int x35]) Z.1 dX12_pour_86 cw_X12_117 (pX12_deny_ok G (dk - 1) (by omega) q34) rfl rfl t0 (zG Z) rfl (by decide) (zF Z (by omega)) (zO Z (by omega) (by decide)) (zM _) Z.2.1 Z.2.1 rfl rfl ?_
              obtain ⟨z36, hf⟩ := bz_i hf
              cases hf
              exact J_zret Z.1 Z.2.2.2.2.2 (z_n z36) dX12_pour_89
          · rw [if_neg c15] at hf
            refine J_aload_n Z.1 2 dX12_pour_71 rfl rfl ?_
            refine J_bipush Z.1 (v := 11) (by decide) dX12_pour_72 ?_
            obtain ⟨x39, h37, q38, hf⟩ := bd2_i hf
            refine J_callV (ci := 10) (as := [.int 11]) (rest := []) (sy := [.int x39]) Z.1 dX12_pour_74 cw_X12_117 (pX12_deny_ok G (dk - 1) (by omega) q38) rfl rfl t0 (zG Z) rfl (by decide) (zF Z (by omega)) (zO Z (by omega) (by decide)) (zM _) Z.2.1 Z.2.1 rfl rfl ?_
            obtain ⟨z40, hf⟩ := bz_i hf
            cases hf
            exact J_zret Z.1 Z.2.2.2.2.2 (z_n z40) dX12_pour_77
        · rw [if_pos c14] at hf
          refine J_lv [2] rfl ?_
          exact pX12_pour_b52_ok Z hK t0  _ hf
    · rw [if_pos c2] at hf
      refine J_lv [0] rfl ?_
      exact pX12_pour_b14_ok Z hK t0  _ hf
theorem dX12_tapeInt_0 : decode cX12_tapeInt 0 = .ok (.bipush 24, 2) := by decide +kernel
theorem dX12_tapeInt_2 : decode cX12_tapeInt 2 = .ok (.istore_n 2, 1) := by decide +kernel
theorem dX12_tapeInt_3 : decode cX12_tapeInt 3 = .ok (.iload_n 2, 1) := by decide +kernel
theorem dX12_tapeInt_4 : decode cX12_tapeInt 4 = .ok (.ifCond .lt 42, 3) := by decide +kernel
theorem dX12_tapeInt_7 : decode cX12_tapeInt 7 = .ok (.aload_n 0, 1) := by decide +kernel
theorem dX12_tapeInt_8 : decode cX12_tapeInt 8 = .ok (.getfield 167, 3) := by decide +kernel
theorem dX12_tapeInt_11 : decode cX12_tapeInt 11 = .ok (.sipush 900, 3) := by decide +kernel
theorem dX12_tapeInt_14 : decode cX12_tapeInt 14 = .ok (.if_icmp .ge 32, 3) := by decide +kernel
theorem dX12_tapeInt_17 : decode cX12_tapeInt 17 = .ok (.aload_n 0, 1) := by decide +kernel
theorem dX12_tapeInt_18 : decode cX12_tapeInt 18 = .ok (.getfield 16, 3) := by decide +kernel
theorem dX12_tapeInt_21 : decode cX12_tapeInt 21 = .ok (.aload_n 0, 1) := by decide +kernel
theorem dX12_tapeInt_22 : decode cX12_tapeInt 22 = .ok (.getfield 167, 3) := by decide +kernel
theorem dX12_tapeInt_25 : decode cX12_tapeInt 25 = .ok (.iload_n 1, 1) := by decide +kernel
theorem dX12_tapeInt_26 : decode cX12_tapeInt 26 = .ok (.iload_n 2, 1) := by decide +kernel
theorem dX12_tapeInt_27 : decode cX12_tapeInt 27 = .ok (.ishr, 1) := by decide +kernel
theorem dX12_tapeInt_28 : decode cX12_tapeInt 28 = .ok (.i2b, 1) := by decide +kernel
theorem dX12_tapeInt_29 : decode cX12_tapeInt 29 = .ok (.bastore, 1) := by decide +kernel
theorem dX12_tapeInt_30 : decode cX12_tapeInt 30 = .ok (.aload_n 0, 1) := by decide +kernel
theorem dX12_tapeInt_31 : decode cX12_tapeInt 31 = .ok (.dup, 1) := by decide +kernel
theorem dX12_tapeInt_32 : decode cX12_tapeInt 32 = .ok (.getfield 167, 3) := by decide +kernel
theorem dX12_tapeInt_35 : decode cX12_tapeInt 35 = .ok (.iconst 1, 1) := by decide +kernel
theorem dX12_tapeInt_36 : decode cX12_tapeInt 36 = .ok (.iadd, 1) := by decide +kernel
theorem dX12_tapeInt_37 : decode cX12_tapeInt 37 = .ok (.putfield 167, 3) := by decide +kernel
theorem dX12_tapeInt_40 : decode cX12_tapeInt 40 = .ok (.iinc 2 (-8), 3) := by decide +kernel
theorem dX12_tapeInt_43 : decode cX12_tapeInt 43 = .ok (.goto (-40), 3) := by decide +kernel
theorem dX12_tapeInt_46 : decode cX12_tapeInt 46 = .ok (.return_, 1) := by decide +kernel
def pX12_tapeInt_b3 (g : MT) (this : Nat) (p1 : Int32) (k3 : Int32 → CT → Option CT) (l2 : Int32) (h : CT) : Option CT := if l2 < 0 then some h else if 900 ≤ (hI h this 2) then some h else lt (hR h this 1) fun r3 => (nn r3 fun a3 => (tg g a3 23 (ix (gL g a3) (hI h this 2) (lt (sI h a3 (Int32.toNatClampNeg (hI h this 2)) (vp_nar .byte (Int8.toInt32 (Int32.toInt8 (p1 >>> (l2 &&& 31)))))) fun h6 => (lt (sI h6 this 2 ((hI h6 this 2) + 1)) fun h7 => (lt (l2 + (-8)) fun x8 => (k3 x8 h7)))))))
set_option maxRecDepth 10000 in
set_option maxHeartbeats 4000000 in
theorem pX12_tapeInt_b3_ok {X : Cx} {G : Gx} {dk : Nat} {g : MT} {h0 : CT} {this : Nat} {p1 : Int32} {k3 : Int32 → CT → Option CT} (Z : Zx X G cX12_tapeInt RX12 3 dk none none g h0) (hK : 0 ≤ dk) (t0 : gT g this = 11) (hk3 : ∀ (l2 : Int32) (h : CT), k3 l2 h = some h0 → J X g h 3 [(0, va_rf (some this)), (1, .int p1), (2, .int l2)] []) (l2 : Int32) (h : CT) (hf : pX12_tapeInt_b3 g this p1 k3 l2 h = some h0) : J X g h 3 [(0, va_rf (some this)), (1, .int p1), (2, .int l2)] [] := by
  unfold pX12_tapeInt_b3 at hf
  refine J_iload_n Z.1 2 dX12_tapeInt_3 rfl rfl ?_
  refine J_if_lt Z.1 46 dX12_tapeInt_4 (by decide) (fun c1 => ?_) (fun c1 => ?_)
  · rw [if_pos c1] at hf
    cases hf
    exact J_vret Z.1 Z.2.2.2.2.2 dX12_tapeInt_46
  · rw [if_neg c1] at hf
    refine J_aload_n Z.1 0 dX12_tapeInt_7 rfl rfl ?_
    refine J_get (v := .int (hI h this 2)) Z.1 dX12_tapeInt_8 fl_X12_167 t0 rfl ?_
    refine J_sipush Z.1 (v := 900) (by decide) dX12_tapeInt_11 ?_
    refine J_icmp_ge Z.1 46 dX12_tapeInt_14 (by decide) (fun c2 => ?_) (fun c2 => ?_)
    · rw [if_pos c2] at hf
      cases hf
      exact J_vret Z.1 Z.2.2.2.2.2 dX12_tapeInt_46
    · rw [if_neg c2] at hf
      refine J_aload_n Z.1 0 dX12_tapeInt_17 rfl rfl ?_
      refine J_get (v := va_rf (hR h this 1)) Z.1 dX12_tapeInt_18 fl_X12_16 t0 rfl ?_
      refine J_tr (fun r3 er3 => ?_)
      replace hf := lt_i hf r3 er3
      refine J_aload_n Z.1 0 dX12_tapeInt_21 rfl rfl ?_
      refine J_get (v := .int (hI h this 2)) Z.1 dX12_tapeInt_22 fl_X12_167 t0 rfl ?_
      refine J_iload_n Z.1 1 dX12_tapeInt_25 rfl rfl ?_
      refine J_iload_n Z.1 2 dX12_tapeInt_26 rfl rfl ?_
      refine J_ishr Z.1 dX12_tapeInt_27 ?_
      refine J_i2b Z.1 dX12_tapeInt_28 ?_
      replace hf := nn_i hf
      obtain ⟨a3, rfl, hf⟩ := hf
      obtain ⟨t4, hf⟩ := tg_i hf
      obtain ⟨i5, hf⟩ := ix_i hf
      refine J_bastore Z.1 dX12_tapeInt_29 t4 i5 ?_
      refine J_th (fun h6 eh6 => ?_)
      replace hf := lt_i hf h6 eh6
      refine J_aload_n Z.1 0 dX12_tapeInt_30 rfl rfl ?_
      refine J_dup Z.1 dX12_tapeInt_31 rfl ?_
      refine J_get (v := .int (hI h6 this 2)) Z.1 dX12_tapeInt_32 fl_X12_167 t0 rfl ?_
      refine J_iconst Z.1 (v := 1) (by decide) dX12_tapeInt_35 ?_
      refine J_iadd Z.1 dX12_tapeInt_36 ?_
      refine J_putI Z.1 dX12_tapeInt_37 fl_X12_167 (fun q => by cases q) t0 rfl rfl (congrArg Value.int (hI_s _ _ _ _)) ?_
      refine J_th (fun h7 eh7 => ?_)
      replace hf := lt_i hf h7 eh7
      refine J_iinc Z.1 (v := (-8)) (lv2 := [(2, .int (l2 + (-8))), (0, va_rf (some this)), (1, .int p1)]) 2 dX12_tapeInt_40 rfl (by decide) (zL Z (by decide)) rfl ?_
      obtain ⟨x8, ex8⟩ : ∃ z, z = (l2 + (-8)) := ⟨_, rfl⟩
      replace hf := lt_i hf x8 ex8
      rw [← ex8]
      refine J_goto Z.1 3 dX12_tapeInt_43 (by decide) ?_
      refine J_lv [1, 2, 0] rfl ?_
      exact hk3 _ _ hf
def pX12_tapeInt_l3 (g : MT) (this : Nat) (p1 : Int32) : Nat → Int32 → CT → Option CT
  | 0, _, _ => none
  | n + 1, l2, h => pX12_tapeInt_b3 g this p1 (pX12_tapeInt_l3 g this p1 n) l2 h
theorem pX12_tapeInt_l3_ok {X : Cx} {G : Gx} {dk : Nat} {g : MT} {h0 : CT} {this : Nat} {p1 : Int32} (Z : Zx X G cX12_tapeInt RX12 3 dk none none g h0) (hK : 0 ≤ dk) (t0 : gT g this = 11) : ∀ (n : Nat) (l2 : Int32) (h : CT), pX12_tapeInt_l3 g this p1 n l2 h = some h0 → J X g h 3 [(0, va_rf (some this)), (1, .int p1), (2, .int l2)] [] := by
  intro n
  induction n with
  | zero => intro l2 h hf; cases hf
  | succ n ih => intro l2 h hf; exact pX12_tapeInt_b3_ok Z hK t0 ih l2 h hf
def pX12_tapeInt (g : MT) (h : CT) (this : Nat) (p1 : Int32) : Option CT := tg g this 11 (pX12_tapeInt_l3 g this p1  FUEL 24 h)
set_option maxRecDepth 10000 in
set_option maxHeartbeats 4000000 in
theorem pX12_tapeInt_ok (G : Gx) (dk : Nat) (hK : 0 ≤ dk) {g : MT} {h h0 : CT} {this : Nat} {p1 : Int32} (hf : pX12_tapeInt g h this p1 = some h0) : Ctr G dk yX12_tapeInt cX12_tapeInt 3 none [va_rf (some this), .int p1] g h none g h0 := by
  refine Ctr.ofZ (lv := [(0, va_rf (some this)), (1, .int p1)]) (by decide +kernel) (by simp [cat_i, cat_l, cat_d, cat_rf]) rfl fun X Z => ?_
  unfold pX12_tapeInt at hf
  obtain ⟨t0, hf⟩ := tg_i hf
  refine J_bipush Z.1 (v := 24) (by decide) dX12_tapeInt_0 ?_
  refine J_istore_n Z.1 (lv2 := [(2, .int 24), (0, va_rf (some this)), (1, .int p1)]) dX12_tapeInt_2 rfl (zL Z (by decide)) rfl ?_
  refine J_lv [1, 2, 0] rfl ?_
  exact pX12_tapeInt_l3_ok Z hK t0  FUEL _ _ hf
theorem dX12_fault_0 : decode cX12_fault 0 = .ok (.iload_n 1, 1) := by decide +kernel
theorem dX12_fault_1 : decode cX12_fault 1 = .ok (.ifCond .ne 11, 3) := by decide +kernel
theorem dX12_fault_4 : decode cX12_fault 4 = .ok (.aload_n 0, 1) := by decide +kernel
theorem dX12_fault_5 : decode cX12_fault 5 = .ok (.getfield 23, 3) := by decide +kernel
theorem dX12_fault_8 : decode cX12_fault 8 = .ok (.getfield 187, 3) := by decide +kernel
theorem dX12_fault_11 : decode cX12_fault 11 = .ok (.ireturn, 1) := by decide +kernel
theorem dX12_fault_12 : decode cX12_fault 12 = .ok (.iload_n 1, 1) := by decide +kernel
theorem dX12_fault_13 : decode cX12_fault 13 = .ok (.iconst 1, 1) := by decide +kernel
theorem dX12_fault_14 : decode cX12_fault 14 = .ok (.if_icmp .ne 13, 3) := by decide +kernel
theorem dX12_fault_17 : decode cX12_fault 17 = .ok (.aload_n 0, 1) := by decide +kernel
theorem dX12_fault_18 : decode cX12_fault 18 = .ok (.getfield 23, 3) := by decide +kernel
theorem dX12_fault_21 : decode cX12_fault 21 = .ok (.getfield 190, 3) := by decide +kernel
theorem dX12_fault_24 : decode cX12_fault 24 = .ok (.goto 4, 3) := by decide +kernel
theorem dX12_fault_27 : decode cX12_fault 27 = .ok (.iconst (-1), 1) := by decide +kernel
theorem dX12_fault_28 : decode cX12_fault 28 = .ok (.ireturn, 1) := by decide +kernel
def pX12_fault (g : MT) (h : CT) (this : Nat) (p1 : Int32) : Option Int32 := tg g this 11 (if p1 = 0 then lt (hR h this 3) fun r5 => (nn r5 fun a5 => (tg g a5 5 (some (hI h a5 0)))) else if p1 = 1 then lt (hR h this 3) fun r3 => (nn r3 fun a3 => (tg g a3 5 (some (hI h a3 1)))) else some (-1))
set_option maxRecDepth 10000 in
set_option maxHeartbeats 4000000 in
theorem pX12_fault_ok (G : Gx) (dk : Nat) (hK : 0 ≤ dk) {g : MT} {h : CT} {this : Nat} {p1 : Int32} {r0 : Int32} (hf : pX12_fault g h this p1 = some r0) : Ctr G dk yX12_fault cX12_fault 2 (some .int) [va_rf (some this), .int p1] g h (some (.int r0)) g h := by
  refine Ctr.ofZ (lv := [(0, va_rf (some this)), (1, .int p1)]) (by decide +kernel) (by simp [cat_i, cat_l, cat_d, cat_rf]) rfl fun X Z => ?_
  unfold pX12_fault at hf
  obtain ⟨t0, hf⟩ := tg_i hf
  refine J_iload_n Z.1 1 dX12_fault_0 rfl rfl ?_
  refine J_if_ne Z.1 12 dX12_fault_1 (by decide) (fun c1 => ?_) (fun c1 => ?_)
  · rw [if_neg c1] at hf
    refine J_iload_n Z.1 1 dX12_fault_12 rfl rfl ?_
    refine J_iconst Z.1 (v := 1) (by decide) dX12_fault_13 ?_
    refine J_icmp_ne Z.1 27 dX12_fault_14 (by decide) (fun c2 => ?_) (fun c2 => ?_)
    · rw [if_neg c2] at hf
      refine J_iconst Z.1 (v := (-1)) (by decide) dX12_fault_27 ?_
      cases hf
      exact J_iret Z.1 Z.2.2.2.2.2 dX12_fault_28
    · rw [if_pos c2] at hf
      refine J_aload_n Z.1 0 dX12_fault_17 rfl rfl ?_
      refine J_get (v := va_rf (hR h this 3)) Z.1 dX12_fault_18 fl_X12_23 t0 rfl ?_
      refine J_tr (fun r3 er3 => ?_)
      replace hf := lt_i hf r3 er3
      replace hf := nn_i hf
      obtain ⟨a3, rfl, hf⟩ := hf
      obtain ⟨t4, hf⟩ := tg_i hf
      refine J_get (v := .int (hI h a3 1)) Z.1 dX12_fault_21 fl_X12_190 t4 rfl ?_
      refine J_goto Z.1 28 dX12_fault_24 (by decide) ?_
      cases hf
      exact J_iret Z.1 Z.2.2.2.2.2 dX12_fault_28
  · rw [if_pos c1] at hf
    refine J_aload_n Z.1 0 dX12_fault_4 rfl rfl ?_
    refine J_get (v := va_rf (hR h this 3)) Z.1 dX12_fault_5 fl_X12_23 t0 rfl ?_
    refine J_tr (fun r5 er5 => ?_)
    replace hf := lt_i hf r5 er5
    replace hf := nn_i hf
    obtain ⟨a5, rfl, hf⟩ := hf
    obtain ⟨t6, hf⟩ := tg_i hf
    refine J_get (v := .int (hI h a5 0)) Z.1 dX12_fault_8 fl_X12_187 t6 rfl ?_
    cases hf
    exact J_iret Z.1 Z.2.2.2.2.2 dX12_fault_11
theorem dX12_many_0 : decode cX12_many 0 = .ok (.iload_n 1, 1) := by decide +kernel
theorem dX12_many_1 : decode cX12_many 1 = .ok (.tableswitch 114 0 5 #[39, 51, 63, 75, 87, 102], 39) := by decide +kernel
theorem dX12_many_40 : decode cX12_many 40 = .ok (.aload_n 0, 1) := by decide +kernel
theorem dX12_many_41 : decode cX12_many 41 = .ok (.aload_n 0, 1) := by decide +kernel
theorem dX12_many_42 : decode cX12_many 42 = .ok (.getfield 30, 3) := by decide +kernel
theorem dX12_many_45 : decode cX12_many 45 = .ok (.getfield 193, 3) := by decide +kernel
theorem dX12_many_48 : decode cX12_many 48 = .ok (.invokevirtual 105, 3) := by decide +kernel
theorem dX12_many_51 : decode cX12_many 51 = .ok (.ireturn, 1) := by decide +kernel
theorem dX12_many_52 : decode cX12_many 52 = .ok (.aload_n 0, 1) := by decide +kernel
theorem dX12_many_53 : decode cX12_many 53 = .ok (.aload_n 0, 1) := by decide +kernel
theorem dX12_many_54 : decode cX12_many 54 = .ok (.getfield 30, 3) := by decide +kernel
theorem dX12_many_57 : decode cX12_many 57 = .ok (.getfield 196, 3) := by decide +kernel
theorem dX12_many_60 : decode cX12_many 60 = .ok (.invokevirtual 105, 3) := by decide +kernel
theorem dX12_many_63 : decode cX12_many 63 = .ok (.ireturn, 1) := by decide +kernel
theorem dX12_many_64 : decode cX12_many 64 = .ok (.aload_n 0, 1) := by decide +kernel
theorem dX12_many_65 : decode cX12_many 65 = .ok (.aload_n 0, 1) := by decide +kernel
theorem dX12_many_66 : decode cX12_many 66 = .ok (.getfield 30, 3) := by decide +kernel
theorem dX12_many_69 : decode cX12_many 69 = .ok (.getfield 199, 3) := by decide +kernel
theorem dX12_many_72 : decode cX12_many 72 = .ok (.invokevirtual 105, 3) := by decide +kernel
theorem dX12_many_75 : decode cX12_many 75 = .ok (.ireturn, 1) := by decide +kernel
theorem dX12_many_76 : decode cX12_many 76 = .ok (.aload_n 0, 1) := by decide +kernel
theorem dX12_many_77 : decode cX12_many 77 = .ok (.aload_n 0, 1) := by decide +kernel
theorem dX12_many_78 : decode cX12_many 78 = .ok (.getfield 30, 3) := by decide +kernel
theorem dX12_many_81 : decode cX12_many 81 = .ok (.getfield 202, 3) := by decide +kernel
theorem dX12_many_84 : decode cX12_many 84 = .ok (.invokevirtual 105, 3) := by decide +kernel
theorem dX12_many_87 : decode cX12_many 87 = .ok (.ireturn, 1) := by decide +kernel
theorem dX12_many_88 : decode cX12_many 88 = .ok (.aload_n 0, 1) := by decide +kernel
theorem dX12_many_89 : decode cX12_many 89 = .ok (.aload_n 0, 1) := by decide +kernel
theorem dX12_many_90 : decode cX12_many 90 = .ok (.getfield 30, 3) := by decide +kernel
theorem dX12_many_93 : decode cX12_many 93 = .ok (.getfield 178, 3) := by decide +kernel
theorem dX12_many_96 : decode cX12_many 96 = .ok (.getfield 184, 3) := by decide +kernel
theorem dX12_many_99 : decode cX12_many 99 = .ok (.invokevirtual 105, 3) := by decide +kernel
theorem dX12_many_102 : decode cX12_many 102 = .ok (.ireturn, 1) := by decide +kernel
theorem dX12_many_103 : decode cX12_many 103 = .ok (.aload_n 0, 1) := by decide +kernel
theorem dX12_many_104 : decode cX12_many 104 = .ok (.aload_n 0, 1) := by decide +kernel
theorem dX12_many_105 : decode cX12_many 105 = .ok (.getfield 30, 3) := by decide +kernel
theorem dX12_many_108 : decode cX12_many 108 = .ok (.invokevirtual 205, 3) := by decide +kernel
theorem dX12_many_111 : decode cX12_many 111 = .ok (.invokevirtual 105, 3) := by decide +kernel
theorem dX12_many_114 : decode cX12_many 114 = .ok (.ireturn, 1) := by decide +kernel
theorem dX12_many_115 : decode cX12_many 115 = .ok (.aload_n 0, 1) := by decide +kernel
theorem dX12_many_116 : decode cX12_many 116 = .ok (.iconst 5, 1) := by decide +kernel
theorem dX12_many_117 : decode cX12_many 117 = .ok (.invokevirtual 143, 3) := by decide +kernel
theorem dX12_many_120 : decode cX12_many 120 = .ok (.ireturn, 1) := by decide +kernel
def pX12_many (g : MT) (h : CT) (this : Nat) (p1 : Int32) : Option ((Int32) × CT) := tg g this 11 (if p1 = 0 then lt (hR h this 4) fun r2 => (nn r2 fun a2 => (tg g a2 3 (bd2 (pX12_answer g h this (hI h a2 5)) fun x6 h4 => (some (x6, h4))))) else (if p1 = 1 then lt (hR h this 4) fun r8 => (nn r8 fun a8 => (tg g a8 3 (bd2 (pX12_answer g h this (hI h a8 6)) fun x12 h10 => (some (x12, h10))))) else (if p1 = 2 then lt (hR h this 4) fun r14 => (nn r14 fun a14 => (tg g a14 3 (bd2 (pX12_answer g h this (hI h a14 7)) fun x18 h16 => (some (x18, h16))))) else (if p1 = 3 then lt (hR h this 4) fun r20 => (nn r20 fun a20 => (tg g a20 3 (bd2 (pX12_answer g h this (hI h a20 4)) fun x24 h22 => (some (x24, h22))))) else (if p1 = 4 then lt (hR h this 4) fun r26 => (nn r26 fun a26 => (tg g a26 3 (lt (hR h a26 8) fun r28 => (nn r28 fun a28 => (tg g a28 6 (bd2 (pX12_answer g h this (hI h a28 1)) fun x32 h30 => (some (x32, h30)))))))) else (if p1 = 5 then lt (hR h this 4) fun r34 => (nn r34 fun a34 => (tg g a34 3 (bd (pX3_rowsThere g h a34) fun x36 => (bd2 (pX12_answer g h this x36) fun x40 h38 => (some (x40, h38)))))) else (bd2 (pX12_refuse g h this 5) fun x43 h41 => (some (x43, h41)))))))))
set_option maxRecDepth 10000 in
set_option maxHeartbeats 4000000 in
theorem pX12_many_ok (G : Gx) (dk : Nat) (hK : 1 ≤ dk) {g : MT} {h h0 : CT} {this : Nat} {p1 : Int32} {r0 : Int32} (hf : pX12_many g h this p1 = some (r0, h0)) : Ctr G dk yX12_many cX12_many 2 (some .int) [va_rf (some this), .int p1] g h (some (.int r0)) g h0 := by
  refine Ctr.ofZ (lv := [(0, va_rf (some this)), (1, .int p1)]) (by decide +kernel) (by simp [cat_i, cat_l, cat_d, cat_rf]) rfl fun X Z => ?_
  unfold pX12_many at hf
  obtain ⟨t0, hf⟩ := tg_i hf
  refine J_iload_n Z.1 1 dX12_many_0 rfl rfl ?_
  by_cases c1 : p1 = 0
  · rw [if_pos c1] at hf
    refine J_tabIn (off := 39) Z.1 40 dX12_many_1 (by rw [c1]; decide) (by rw [c1]; decide) (by rw [c1]; decide) (by decide) ?_
    refine J_aload_n Z.1 0 dX12_many_40 rfl rfl ?_
    refine J_aload_n Z.1 0 dX12_many_41 rfl rfl ?_
    refine J_get (v := va_rf (hR h this 4)) Z.1 dX12_many_42 fl_X12_30 t0 rfl ?_
    refine J_tr (fun r2 er2 => ?_)
    replace hf := lt_i hf r2 er2
    replace hf := nn_i hf
    obtain ⟨a2, rfl, hf⟩ := hf
    obtain ⟨t3, hf⟩ := tg_i hf
    refine J_get (v := .int (hI h a2 5)) Z.1 dX12_many_45 fl_X12_193 t3 rfl ?_
    obtain ⟨x6, h4, q5, hf⟩ := bd2_i hf
    refine J_callV (ci := 10) (as := [.int (hI h a2 5)]) (rest := []) (sy := [.int x6]) Z.1 dX12_many_48 cw_X12_105 (pX12_answer_ok G (dk - 1) (by omega) q5) rfl rfl t0 (zG Z) rfl (by decide) (zF Z (by omega)) (zO Z (by omega) (by decide)) (zM _) Z.2.1 Z.2.1 rfl rfl ?_
    cases hf
    exact J_iret Z.1 Z.2.2.2.2.2 dX12_many_51
  rw [if_neg c1] at hf
  by_cases c7 : p1 = 1
  · rw [if_pos c7] at hf
    refine J_tabIn (off := 51) Z.1 52 dX12_many_1 (by rw [c7]; decide) (by rw [c7]; decide) (by rw [c7]; decide) (by decide) ?_
    refine J_aload_n Z.1 0 dX12_many_52 rfl rfl ?_
    refine J_aload_n Z.1 0 dX12_many_53 rfl rfl ?_
    refine J_get (v := va_rf (hR h this 4)) Z.1 dX12_many_54 fl_X12_30 t0 rfl ?_
    refine J_tr (fun r8 er8 => ?_)
    replace hf := lt_i hf r8 er8
    replace hf := nn_i hf
    obtain ⟨a8, rfl, hf⟩ := hf
    obtain ⟨t9, hf⟩ := tg_i hf
    refine J_get (v := .int (hI h a8 6)) Z.1 dX12_many_57 fl_X12_196 t9 rfl ?_
    obtain ⟨x12, h10, q11, hf⟩ := bd2_i hf
    refine J_callV (ci := 10) (as := [.int (hI h a8 6)]) (rest := []) (sy := [.int x12]) Z.1 dX12_many_60 cw_X12_105 (pX12_answer_ok G (dk - 1) (by omega) q11) rfl rfl t0 (zG Z) rfl (by decide) (zF Z (by omega)) (zO Z (by omega) (by decide)) (zM _) Z.2.1 Z.2.1 rfl rfl ?_
    cases hf
    exact J_iret Z.1 Z.2.2.2.2.2 dX12_many_63
  rw [if_neg c7] at hf
  by_cases c13 : p1 = 2
  · rw [if_pos c13] at hf
    refine J_tabIn (off := 63) Z.1 64 dX12_many_1 (by rw [c13]; decide) (by rw [c13]; decide) (by rw [c13]; decide) (by decide) ?_
    refine J_aload_n Z.1 0 dX12_many_64 rfl rfl ?_
    refine J_aload_n Z.1 0 dX12_many_65 rfl rfl ?_
    refine J_get (v := va_rf (hR h this 4)) Z.1 dX12_many_66 fl_X12_30 t0 rfl ?_
    refine J_tr (fun r14 er14 => ?_)
    replace hf := lt_i hf r14 er14
    replace hf := nn_i hf
    obtain ⟨a14, rfl, hf⟩ := hf
    obtain ⟨t15, hf⟩ := tg_i hf
    refine J_get (v := .int (hI h a14 7)) Z.1 dX12_many_69 fl_X12_199 t15 rfl ?_
    obtain ⟨x18, h16, q17, hf⟩ := bd2_i hf
    refine J_callV (ci := 10) (as := [.int (hI h a14 7)]) (rest := []) (sy := [.int x18]) Z.1 dX12_many_72 cw_X12_105 (pX12_answer_ok G (dk - 1) (by omega) q17) rfl rfl t0 (zG Z) rfl (by decide) (zF Z (by omega)) (zO Z (by omega) (by decide)) (zM _) Z.2.1 Z.2.1 rfl rfl ?_
    cases hf
    exact J_iret Z.1 Z.2.2.2.2.2 dX12_many_75
  rw [if_neg c13] at hf
  by_cases c19 : p1 = 3
  · rw [if_pos c19] at hf
    refine J_tabIn (off := 75) Z.1 76 dX12_many_1 (by rw [c19]; decide) (by rw [c19]; decide) (by rw [c19]; decide) (by decide) ?_
    refine J_aload_n Z.1 0 dX12_many_76 rfl rfl ?_
    refine J_aload_n Z.1 0 dX12_many_77 rfl rfl ?_
    refine J_get (v := va_rf (hR h this 4)) Z.1 dX12_many_78 fl_X12_30 t0 rfl ?_
    refine J_tr (fun r20 er20 => ?_)
    replace hf := lt_i hf r20 er20
    replace hf := nn_i hf
    obtain ⟨a20, rfl, hf⟩ := hf
    obtain ⟨t21, hf⟩ := tg_i hf
    refine J_get (v := .int (hI h a20 4)) Z.1 dX12_many_81 fl_X12_202 t21 rfl ?_
    obtain ⟨x24, h22, q23, hf⟩ := bd2_i hf
    refine J_callV (ci := 10) (as := [.int (hI h a20 4)]) (rest := []) (sy := [.int x24]) Z.1 dX12_many_84 cw_X12_105 (pX12_answer_ok G (dk - 1) (by omega) q23) rfl rfl t0 (zG Z) rfl (by decide) (zF Z (by omega)) (zO Z (by omega) (by decide)) (zM _) Z.2.1 Z.2.1 rfl rfl ?_
    cases hf
    exact J_iret Z.1 Z.2.2.2.2.2 dX12_many_87
  rw [if_neg c19] at hf
  by_cases c25 : p1 = 4
  · rw [if_pos c25] at hf
    refine J_tabIn (off := 87) Z.1 88 dX12_many_1 (by rw [c25]; decide) (by rw [c25]; decide) (by rw [c25]; decide) (by decide) ?_
    refine J_aload_n Z.1 0 dX12_many_88 rfl rfl ?_
    refine J_aload_n Z.1 0 dX12_many_89 rfl rfl ?_
    refine J_get (v := va_rf (hR h this 4)) Z.1 dX12_many_90 fl_X12_30 t0 rfl ?_
    refine J_tr (fun r26 er26 => ?_)
    replace hf := lt_i hf r26 er26
    replace hf := nn_i hf
    obtain ⟨a26, rfl, hf⟩ := hf
    obtain ⟨t27, hf⟩ := tg_i hf
    refine J_get (v := va_rf (hR h a26 8)) Z.1 dX12_many_93 fl_X12_178 t27 rfl ?_
    refine J_tr (fun r28 er28 => ?_)
    replace hf := lt_i hf r28 er28
    replace hf := nn_i hf
    obtain ⟨a28, rfl, hf⟩ := hf
    obtain ⟨t29, hf⟩ := tg_i hf
    refine J_get (v := .int (hI h a28 1)) Z.1 dX12_many_96 fl_X12_184 t29 rfl ?_
    obtain ⟨x32, h30, q31, hf⟩ := bd2_i hf
    refine J_callV (ci := 10) (as := [.int (hI h a28 1)]) (rest := []) (sy := [.int x32]) Z.1 dX12_many_99 cw_X12_105 (pX12_answer_ok G (dk - 1) (by omega) q31) rfl rfl t0 (zG Z) rfl (by decide) (zF Z (by omega)) (zO Z (by omega) (by decide)) (zM _) Z.2.1 Z.2.1 rfl rfl ?_
    cases hf
    exact J_iret Z.1 Z.2.2.2.2.2 dX12_many_102
  rw [if_neg c25] at hf
  by_cases c33 : p1 = 5
  · rw [if_pos c33] at hf
    refine J_tabIn (off := 102) Z.1 103 dX12_many_1 (by rw [c33]; decide) (by rw [c33]; decide) (by rw [c33]; decide) (by decide) ?_
    refine J_aload_n Z.1 0 dX12_many_103 rfl rfl ?_
    refine J_aload_n Z.1 0 dX12_many_104 rfl rfl ?_
    refine J_get (v := va_rf (hR h this 4)) Z.1 dX12_many_105 fl_X12_30 t0 rfl ?_
    refine J_tr (fun r34 er34 => ?_)
    replace hf := lt_i hf r34 er34
    replace hf := nn_i hf
    obtain ⟨a34, rfl, hf⟩ := hf
    obtain ⟨t35, hf⟩ := tg_i hf
    obtain ⟨x36, q37, hf⟩ := bd_i hf
    refine J_callV (ci := 2) (as := []) (rest := [va_rf (some this)]) (sy := [.int x36, va_rf (some this)]) Z.1 dX12_many_108 cw_X12_205 (pX3_rowsThere_ok G (dk - 1) (by omega) q37) rfl rfl t35 (zG Z) rfl (by simp [cat_i, cat_l, cat_d, cat_rf]) (zF Z (by omega)) (zO Z (by omega) (by decide)) (zM _) Z.2.1 Z.2.1 rfl rfl ?_
    obtain ⟨x40, h38, q39, hf⟩ := bd2_i hf
    refine J_callV (ci := 10) (as := [.int x36]) (rest := []) (sy := [.int x40]) Z.1 dX12_many_111 cw_X12_105 (pX12_answer_ok G (dk - 1) (by omega) q39) rfl rfl t0 (zG Z) rfl (by decide) (zF Z (by omega)) (zO Z (by omega) (by decide)) (zM _) Z.2.1 Z.2.1 rfl rfl ?_
    cases hf
    exact J_iret Z.1 Z.2.2.2.2.2 dX12_many_114
  rw [if_neg c33] at hf
  have hout : p1.toInt < 0 ∨ 5 < p1.toInt := by
    have c1q := lv_neT c1 (a := 0) (by decide)
    have c7q := lv_neT c7 (a := 1) (by decide)
    have c13q := lv_neT c13 (a := 2) (by decide)
    have c19q := lv_neT c19 (a := 3) (by decide)
    have c25q := lv_neT c25 (a := 4) (by decide)
    have c33q := lv_neT c33 (a := 5) (by decide)
    omega
  refine J_tabOut Z.1 115 dX12_many_1 hout (by decide) ?_
  refine J_aload_n Z.1 0 dX12_many_115 rfl rfl ?_
  refine J_iconst Z.1 (v := 5) (by decide) dX12_many_116 ?_
  obtain ⟨x43, h41, q42, hf⟩ := bd2_i hf
  refine J_callV (ci := 10) (as := [.int 5]) (rest := []) (sy := [.int x43]) Z.1 dX12_many_117 cw_X12_143 (pX12_refuse_ok G (dk - 1) (by omega) q42) rfl rfl t0 (zG Z) rfl (by decide) (zF Z (by omega)) (zO Z (by omega) (by decide)) (zM _) Z.2.1 Z.2.1 rfl rfl ?_
  cases hf
  exact J_iret Z.1 Z.2.2.2.2.2 dX12_many_120
theorem dX12_rowTrouble_0 : decode cX12_rowTrouble 0 = .ok (.iload_n 1, 1) := by decide +kernel
theorem dX12_rowTrouble_1 : decode cX12_rowTrouble 1 = .ok (.iconst 0, 1) := by decide +kernel
theorem dX12_rowTrouble_2 : decode cX12_rowTrouble 2 = .ok (.iconst 5, 1) := by decide +kernel
theorem dX12_rowTrouble_3 : decode cX12_rowTrouble 3 = .ok (.invokestatic 109, 3) := by decide +kernel
theorem dX12_rowTrouble_6 : decode cX12_rowTrouble 6 = .ok (.ifCond .ne 5, 3) := by decide +kernel
theorem dX12_rowTrouble_9 : decode cX12_rowTrouble 9 = .ok (.iconst 2, 1) := by decide +kernel
theorem dX12_rowTrouble_10 : decode cX12_rowTrouble 10 = .ok (.ireturn, 1) := by decide +kernel
theorem dX12_rowTrouble_11 : decode cX12_rowTrouble 11 = .ok (.aload_n 0, 1) := by decide +kernel
theorem dX12_rowTrouble_12 : decode cX12_rowTrouble 12 = .ok (.getfield 30, 3) := by decide +kernel
theorem dX12_rowTrouble_15 : decode cX12_rowTrouble 15 = .ok (.getfield 209, 3) := by decide +kernel
theorem dX12_rowTrouble_18 : decode cX12_rowTrouble 18 = .ok (.iload_n 1, 1) := by decide +kernel
theorem dX12_rowTrouble_19 : decode cX12_rowTrouble 19 = .ok (.baload, 1) := by decide +kernel
theorem dX12_rowTrouble_20 : decode cX12_rowTrouble 20 = .ok (.ifCond .eq 7, 3) := by decide +kernel
theorem dX12_rowTrouble_23 : decode cX12_rowTrouble 23 = .ok (.iconst 0, 1) := by decide +kernel
theorem dX12_rowTrouble_24 : decode cX12_rowTrouble 24 = .ok (.goto 4, 3) := by decide +kernel
theorem dX12_rowTrouble_27 : decode cX12_rowTrouble 27 = .ok (.iconst 3, 1) := by decide +kernel
theorem dX12_rowTrouble_28 : decode cX12_rowTrouble 28 = .ok (.ireturn, 1) := by decide +kernel
def pX12_rowTrouble (g : MT) (h : CT) (this : Nat) (p1 : Int32) : Option Int32 := tg g this 11 (if (pX12_within p1 0 5) = 0 then some 2 else lt (hR h this 4) fun r2 => (nn r2 fun a2 => (tg g a2 3 (lt (hR h a2 1) fun r4 => (nn r4 fun a4 => (tg g a4 24 (ix (gL g a4) p1 (if (hI h a4 (Int32.toNatClampNeg p1)) = 0 then some 3 else some 0))))))))
set_option maxRecDepth 10000 in
set_option maxHeartbeats 4000000 in
theorem pX12_rowTrouble_ok (G : Gx) (dk : Nat) (hK : 1 ≤ dk) {g : MT} {h : CT} {this : Nat} {p1 : Int32} {r0 : Int32} (hf : pX12_rowTrouble g h this p1 = some r0) : Ctr G dk yX12_rowTrouble cX12_rowTrouble 2 (some .int) [va_rf (some this), .int p1] g h (some (.int r0)) g h := by
  refine Ctr.ofZ (lv := [(0, va_rf (some this)), (1, .int p1)]) (by decide +kernel) (by simp [cat_i, cat_l, cat_d, cat_rf]) rfl fun X Z => ?_
  unfold pX12_rowTrouble at hf
  obtain ⟨t0, hf⟩ := tg_i hf
  refine J_iload_n Z.1 1 dX12_rowTrouble_0 rfl rfl ?_
  refine J_iconst Z.1 (v := 0) (by decide) dX12_rowTrouble_1 ?_
  refine J_iconst Z.1 (v := 5) (by decide) dX12_rowTrouble_2 ?_
  refine J_callS (as := [.int p1, .int 0, .int 5]) (rest := []) (sy := [.int (pX12_within p1 0 5)]) Z.1 dX12_rowTrouble_3 cw_X12_109 (pX12_within_ok G (dk - 1) (by omega) g h p1 0 5) (zG Z) rfl (by decide) (zF Z (by omega)) (zO Z (by omega) (by decide)) (zM _) Z.2.1 Z.2.1 rfl rfl ?_
  refine J_if_ne Z.1 11 dX12_rowTrouble_6 (by decide) (fun c1 => ?_) (fun c1 => ?_)
  · rw [if_neg c1] at hf
    refine J_aload_n Z.1 0 dX12_rowTrouble_11 rfl rfl ?_
    refine J_get (v := va_rf (hR h this 4)) Z.1 dX12_rowTrouble_12 fl_X12_30 t0 rfl ?_
    refine J_tr (fun r2 er2 => ?_)
    replace hf := lt_i hf r2 er2
    replace hf := nn_i hf
    obtain ⟨a2, rfl, hf⟩ := hf
    obtain ⟨t3, hf⟩ := tg_i hf
    refine J_get (v := va_rf (hR h a2 1)) Z.1 dX12_rowTrouble_15 fl_X12_209 t3 rfl ?_
    refine J_tr (fun r4 er4 => ?_)
    replace hf := lt_i hf r4 er4
    refine J_iload_n Z.1 1 dX12_rowTrouble_18 rfl rfl ?_
    replace hf := nn_i hf
    obtain ⟨a4, rfl, hf⟩ := hf
    obtain ⟨t5, hf⟩ := tg_i hf
    obtain ⟨i6, hf⟩ := ix_i hf
    refine J_zaload Z.1 dX12_rowTrouble_19 t5 i6 ?_
    refine J_if_eq Z.1 27 dX12_rowTrouble_20 (by decide) (fun c7 => ?_) (fun c7 => ?_)
    · rw [if_pos c7] at hf
      refine J_iconst Z.1 (v := 3) (by decide) dX12_rowTrouble_27 ?_
      cases hf
      exact J_iret Z.1 Z.2.2.2.2.2 dX12_rowTrouble_28
    · rw [if_neg c7] at hf
      refine J_iconst Z.1 (v := 0) (by decide) dX12_rowTrouble_23 ?_
      refine J_goto Z.1 28 dX12_rowTrouble_24 (by decide) ?_
      cases hf
      exact J_iret Z.1 Z.2.2.2.2.2 dX12_rowTrouble_28
  · rw [if_pos c1] at hf
    refine J_iconst Z.1 (v := 2) (by decide) dX12_rowTrouble_9 ?_
    cases hf
    exact J_iret Z.1 Z.2.2.2.2.2 dX12_rowTrouble_10
theorem dX12_isNumber_0 : decode cX12_isNumber 0 = .ok (.lload_n 0, 1) := by decide +kernel
theorem dX12_isNumber_1 : decode cX12_isNumber 1 = .ok (.ldc2_w 212, 3) := by decide +kernel
theorem dX12_isNumber_4 : decode cX12_isNumber 4 = .ok (.lcmp, 1) := by decide +kernel
theorem dX12_isNumber_5 : decode cX12_isNumber 5 = .ok (.ifCond .lt 28, 3) := by decide +kernel
theorem dX12_isNumber_8 : decode cX12_isNumber 8 = .ok (.lload_n 0, 1) := by decide +kernel
theorem dX12_isNumber_9 : decode cX12_isNumber 9 = .ok (.ldc2_w 214, 3) := by decide +kernel
theorem dX12_isNumber_12 : decode cX12_isNumber 12 = .ok (.lcmp, 1) := by decide +kernel
theorem dX12_isNumber_13 : decode cX12_isNumber 13 = .ok (.ifCond .gt 20, 3) := by decide +kernel
theorem dX12_isNumber_16 : decode cX12_isNumber 16 = .ok (.iload_n 2, 1) := by decide +kernel
theorem dX12_isNumber_17 : decode cX12_isNumber 17 = .ok (.sipush (-200), 3) := by decide +kernel
theorem dX12_isNumber_20 : decode cX12_isNumber 20 = .ok (.sipush 200, 3) := by decide +kernel
theorem dX12_isNumber_23 : decode cX12_isNumber 23 = .ok (.invokestatic 109, 3) := by decide +kernel
theorem dX12_isNumber_26 : decode cX12_isNumber 26 = .ok (.ifCond .eq 7, 3) := by decide +kernel
theorem dX12_isNumber_29 : decode cX12_isNumber 29 = .ok (.iconst 1, 1) := by decide +kernel
theorem dX12_isNumber_30 : decode cX12_isNumber 30 = .ok (.goto 4, 3) := by decide +kernel
theorem dX12_isNumber_33 : decode cX12_isNumber 33 = .ok (.iconst 0, 1) := by decide +kernel
theorem dX12_isNumber_34 : decode cX12_isNumber 34 = .ok (.ireturn, 1) := by decide +kernel
def pX12_isNumber (p0 : Int64) (p2 : Int32) : Int32 := if (lg_cmp p0 (-9007199254740992)) < 0 then 0 else if 0 < (lg_cmp p0 9007199254740992) then 0 else if (pX12_within p2 (-200) 200) = 0 then 0 else 1
set_option maxRecDepth 10000 in
set_option maxHeartbeats 4000000 in
theorem pX12_isNumber_ok (G : Gx) (dk : Nat) (hK : 1 ≤ dk) (g : MT) (h0 : CT) (p0 : Int64) (p2 : Int32) : Ctr G dk yX12_isNumber cX12_isNumber 3 (some .boolean) [.long p0, .int p2] g h0 (some (.int (pX12_isNumber p0 p2))) g h0 := by
  obtain ⟨r0, hf⟩ : ∃ z, pX12_isNumber p0 p2 = z := ⟨_, rfl⟩
  rw [hf]
  refine Ctr.ofZ (lv := [(0, .long p0), (2, .int p2)]) (by decide +kernel) (by simp [cat_i, cat_l, cat_d, cat_rf]) rfl fun X Z => ?_
  unfold pX12_isNumber at hf
  refine J_lload_n Z.1 0 dX12_isNumber_0 rfl rfl ?_
  refine J_ldc2 Z.1 q_888 dX12_isNumber_1 ?_
  refine J_lcmp Z.1 dX12_isNumber_4 ?_
  refine J_if_lt Z.1 33 dX12_isNumber_5 (by decide) (fun c1 => ?_) (fun c1 => ?_)
  · rw [if_pos c1] at hf
    refine J_iconst Z.1 (v := 0) (by decide) dX12_isNumber_33 ?_
    cases hf
    exact J_zret Z.1 Z.2.2.2.2.2 (z_n (Or.inl rfl)) dX12_isNumber_34
  · rw [if_neg c1] at hf
    refine J_lload_n Z.1 0 dX12_isNumber_8 rfl rfl ?_
    refine J_ldc2 Z.1 q_889 dX12_isNumber_9 ?_
    refine J_lcmp Z.1 dX12_isNumber_12 ?_
    refine J_if_gt Z.1 33 dX12_isNumber_13 (by decide) (fun c2 => ?_) (fun c2 => ?_)
    · rw [if_pos c2] at hf
      refine J_iconst Z.1 (v := 0) (by decide) dX12_isNumber_33 ?_
      cases hf
      exact J_zret Z.1 Z.2.2.2.2.2 (z_n (Or.inl rfl)) dX12_isNumber_34
    · rw [if_neg c2] at hf
      refine J_iload_n Z.1 1 dX12_isNumber_16 rfl rfl ?_
      refine J_sipush Z.1 (v := (-200)) (by decide) dX12_isNumber_17 ?_
      refine J_sipush Z.1 (v := 200) (by decide) dX12_isNumber_20 ?_
      refine J_callS (as := [.int p2, .int (-200), .int 200]) (rest := []) (sy := [.int (pX12_within p2 (-200) 200)]) Z.1 dX12_isNumber_23 cw_X12_109 (pX12_within_ok G (dk - 1) (by omega) g h0 p2 (-200) 200) (zG Z) rfl (by decide) (zF Z (by omega)) (zO Z (by omega) (by decide)) (zM _) Z.2.1 Z.2.1 rfl rfl ?_
      refine J_if_eq Z.1 33 dX12_isNumber_26 (by decide) (fun c3 => ?_) (fun c3 => ?_)
      · rw [if_pos c3] at hf
        refine J_iconst Z.1 (v := 0) (by decide) dX12_isNumber_33 ?_
        cases hf
        exact J_zret Z.1 Z.2.2.2.2.2 (z_n (Or.inl rfl)) dX12_isNumber_34
      · rw [if_neg c3] at hf
        refine J_iconst Z.1 (v := 1) (by decide) dX12_isNumber_29 ?_
        refine J_goto Z.1 34 dX12_isNumber_30 (by decide) ?_
        cases hf
        exact J_zret Z.1 Z.2.2.2.2.2 (z_n (Or.inr rfl)) dX12_isNumber_34
theorem pX12_isNumber_z (p0 : Int64) (p2 : Int32) : is01 (pX12_isNumber p0 p2) := by
  unfold pX12_isNumber
  (try split) <;> (try split) <;> (try split) <;> (try split) <;> (try split) <;> (try split) <;> (try split) <;> (try split) <;> first | exact Or.inl rfl | exact Or.inr rfl | exact pX12_within_z _ _ _
theorem dX12_wholesaleTrouble_0 : decode cX12_wholesaleTrouble 0 = .ok (.iload_n 2, 1) := by decide +kernel
theorem dX12_wholesaleTrouble_1 : decode cX12_wholesaleTrouble 1 = .ok (.invokestatic 113, 3) := by decide +kernel
theorem dX12_wholesaleTrouble_4 : decode cX12_wholesaleTrouble 4 = .ok (.ifCond .ne 5, 3) := by decide +kernel
theorem dX12_wholesaleTrouble_7 : decode cX12_wholesaleTrouble 7 = .ok (.iconst 1, 1) := by decide +kernel
theorem dX12_wholesaleTrouble_8 : decode cX12_wholesaleTrouble 8 = .ok (.ireturn, 1) := by decide +kernel
theorem dX12_wholesaleTrouble_9 : decode cX12_wholesaleTrouble 9 = .ok (.iload_n 3, 1) := by decide +kernel
theorem dX12_wholesaleTrouble_10 : decode cX12_wholesaleTrouble 10 = .ok (.ifCond .le 20, 3) := by decide +kernel
theorem dX12_wholesaleTrouble_13 : decode cX12_wholesaleTrouble 13 = .ok (.iload_n 1, 1) := by decide +kernel
theorem dX12_wholesaleTrouble_14 : decode cX12_wholesaleTrouble 14 = .ok (.invokestatic 235, 3) := by decide +kernel
theorem dX12_wholesaleTrouble_17 : decode cX12_wholesaleTrouble 17 = .ok (.ifCond .eq 11, 3) := by decide +kernel
theorem dX12_wholesaleTrouble_20 : decode cX12_wholesaleTrouble 20 = .ok (.iload_n 3, 1) := by decide +kernel
theorem dX12_wholesaleTrouble_21 : decode cX12_wholesaleTrouble 21 = .ok (.bipush 64, 2) := by decide +kernel
theorem dX12_wholesaleTrouble_23 : decode cX12_wholesaleTrouble 23 = .ok (.iload_n 1, 1) := by decide +kernel
theorem dX12_wholesaleTrouble_24 : decode cX12_wholesaleTrouble 24 = .ok (.isub, 1) := by decide +kernel
theorem dX12_wholesaleTrouble_25 : decode cX12_wholesaleTrouble 25 = .ok (.if_icmp .le 5, 3) := by decide +kernel
theorem dX12_wholesaleTrouble_28 : decode cX12_wholesaleTrouble 28 = .ok (.iconst 2, 1) := by decide +kernel
theorem dX12_wholesaleTrouble_29 : decode cX12_wholesaleTrouble 29 = .ok (.ireturn, 1) := by decide +kernel
theorem dX12_wholesaleTrouble_30 : decode cX12_wholesaleTrouble 30 = .ok (.aload_n 0, 1) := by decide +kernel
theorem dX12_wholesaleTrouble_31 : decode cX12_wholesaleTrouble 31 = .ok (.getfield 11, 3) := by decide +kernel
theorem dX12_wholesaleTrouble_34 : decode cX12_wholesaleTrouble 34 = .ok (.iload_n 2, 1) := by decide +kernel
theorem dX12_wholesaleTrouble_35 : decode cX12_wholesaleTrouble 35 = .ok (.aaload, 1) := by decide +kernel
theorem dX12_wholesaleTrouble_36 : decode cX12_wholesaleTrouble 36 = .ok (.getfield 128, 3) := by decide +kernel
theorem dX12_wholesaleTrouble_39 : decode cX12_wholesaleTrouble 39 = .ok (.ifCond .ne 5, 3) := by decide +kernel
theorem dX12_wholesaleTrouble_42 : decode cX12_wholesaleTrouble 42 = .ok (.iconst 3, 1) := by decide +kernel
theorem dX12_wholesaleTrouble_43 : decode cX12_wholesaleTrouble 43 = .ok (.ireturn, 1) := by decide +kernel
theorem dX12_wholesaleTrouble_44 : decode cX12_wholesaleTrouble 44 = .ok (.iload_n 3, 1) := by decide +kernel
theorem dX12_wholesaleTrouble_45 : decode cX12_wholesaleTrouble 45 = .ok (.aload_n 0, 1) := by decide +kernel
theorem dX12_wholesaleTrouble_46 : decode cX12_wholesaleTrouble 46 = .ok (.getfield 11, 3) := by decide +kernel
theorem dX12_wholesaleTrouble_49 : decode cX12_wholesaleTrouble 49 = .ok (.iload_n 2, 1) := by decide +kernel
theorem dX12_wholesaleTrouble_50 : decode cX12_wholesaleTrouble 50 = .ok (.aaload, 1) := by decide +kernel
theorem dX12_wholesaleTrouble_51 : decode cX12_wholesaleTrouble 51 = .ok (.getfield 269, 3) := by decide +kernel
theorem dX12_wholesaleTrouble_54 : decode cX12_wholesaleTrouble 54 = .ok (.if_icmp .le 5, 3) := by decide +kernel
theorem dX12_wholesaleTrouble_57 : decode cX12_wholesaleTrouble 57 = .ok (.iconst 4, 1) := by decide +kernel
theorem dX12_wholesaleTrouble_58 : decode cX12_wholesaleTrouble 58 = .ok (.ireturn, 1) := by decide +kernel
theorem dX12_wholesaleTrouble_59 : decode cX12_wholesaleTrouble 59 = .ok (.iload_n 3, 1) := by decide +kernel
theorem dX12_wholesaleTrouble_60 : decode cX12_wholesaleTrouble 60 = .ok (.iconst 0, 1) := by decide +kernel
theorem dX12_wholesaleTrouble_61 : decode cX12_wholesaleTrouble 61 = .ok (.bipush 60, 2) := by decide +kernel
theorem dX12_wholesaleTrouble_63 : decode cX12_wholesaleTrouble 63 = .ok (.invokestatic 109, 3) := by decide +kernel
theorem dX12_wholesaleTrouble_66 : decode cX12_wholesaleTrouble 66 = .ok (.ifCond .eq 7, 3) := by decide +kernel
theorem dX12_wholesaleTrouble_69 : decode cX12_wholesaleTrouble 69 = .ok (.iconst 0, 1) := by decide +kernel
theorem dX12_wholesaleTrouble_70 : decode cX12_wholesaleTrouble 70 = .ok (.goto 4, 3) := by decide +kernel
theorem dX12_wholesaleTrouble_73 : decode cX12_wholesaleTrouble 73 = .ok (.iconst 5, 1) := by decide +kernel
theorem dX12_wholesaleTrouble_74 : decode cX12_wholesaleTrouble 74 = .ok (.ireturn, 1) := by decide +kernel
def pX12_wholesaleTrouble_b30 (g : MT) (h : CT) (this : Nat) (p1 : Int32) (p2 : Int32) (p3 : Int32)  : Option Int32 := lt (hR h this 0) fun r1 => (nn r1 fun a1 => (tg g a1 28 (ix (gL g a1) p2 (lt (hR h a1 (Int32.toNatClampNeg p2)) fun r4 => (nn r4 fun a4 => (tg g a4 10 (if (hI h a4 0) = 0 then some 3 else lt (hR h this 0) fun r7 => (nn r7 fun a7 => (tg g a7 28 (ix (gL g a7) p2 (lt (hR h a7 (Int32.toNatClampNeg p2)) fun r10 => (nn r10 fun a10 => (tg g a10 10 (if p3 ≤ (hI h a10 2) then if (pX12_within p3 0 60) = 0 then some 5 else some 0 else some 4))))))))))))))
set_option maxRecDepth 10000 in
set_option maxHeartbeats 4000000 in
theorem pX12_wholesaleTrouble_b30_ok {X : Cx} {G : Gx} {dk : Nat} {g : MT} {r0 : Int32} {h : CT} {this : Nat} {p1 : Int32} {p2 : Int32} {p3 : Int32} (Z : Zx X G cX12_wholesaleTrouble RX12 4 dk (some .int) (some (.int r0)) g h) (hK : 2 ≤ dk) (t0 : gT g this = 11)  (hf : pX12_wholesaleTrouble_b30 g h this p1 p2 p3 = some r0) : J X g h 30 [(0, va_rf (some this)), (2, .int p2), (3, .int p3)] [] := by
  unfold pX12_wholesaleTrouble_b30 at hf
  refine J_aload_n Z.1 0 dX12_wholesaleTrouble_30 rfl rfl ?_
  refine J_get (v := va_rf (hR h this 0)) Z.1 dX12_wholesaleTrouble_31 fl_X12_11 t0 rfl ?_
  refine J_tr (fun r1 er1 => ?_)
  replace hf := lt_i hf r1 er1
  refine J_iload_n Z.1 1 dX12_wholesaleTrouble_34 rfl rfl ?_
  replace hf := nn_i hf
  obtain ⟨a1, rfl, hf⟩ := hf
  obtain ⟨t2, hf⟩ := tg_i hf
  obtain ⟨i3, hf⟩ := ix_i hf
  refine J_aaload (t := 8) Z.1 dX12_wholesaleTrouble_35 t2 rfl i3 ?_
  refine J_tr (fun r4 er4 => ?_)
  replace hf := lt_i hf r4 er4
  replace hf := nn_i hf
  obtain ⟨a4, rfl, hf⟩ := hf
  obtain ⟨t5, hf⟩ := tg_i hf
  refine J_get (v := .int (hI h a4 0)) Z.1 dX12_wholesaleTrouble_36 fl_X12_128 t5 rfl ?_
  refine J_if_ne Z.1 44 dX12_wholesaleTrouble_39 (by decide) (fun c6 => ?_) (fun c6 => ?_)
  · rw [if_neg c6] at hf
    refine J_iload_n Z.1 2 dX12_wholesaleTrouble_44 rfl rfl ?_
    refine J_aload_n Z.1 0 dX12_wholesaleTrouble_45 rfl rfl ?_
    refine J_get (v := va_rf (hR h this 0)) Z.1 dX12_wholesaleTrouble_46 fl_X12_11 t0 rfl ?_
    refine J_tr (fun r7 er7 => ?_)
    replace hf := lt_i hf r7 er7
    refine J_iload_n Z.1 1 dX12_wholesaleTrouble_49 rfl rfl ?_
    replace hf := nn_i hf
    obtain ⟨a7, rfl, hf⟩ := hf
    obtain ⟨t8, hf⟩ := tg_i hf
    obtain ⟨i9, hf⟩ := ix_i hf
    refine J_aaload (t := 8) Z.1 dX12_wholesaleTrouble_50 t8 rfl i9 ?_
    refine J_tr (fun r10 er10 => ?_)
    replace hf := lt_i hf r10 er10
    replace hf := nn_i hf
    obtain ⟨a10, rfl, hf⟩ := hf
    obtain ⟨t11, hf⟩ := tg_i hf
    refine J_get (v := .int (hI h a10 2)) Z.1 dX12_wholesaleTrouble_51 fl_X12_269 t11 rfl ?_
    refine J_icmp_le Z.1 59 dX12_wholesaleTrouble_54 (by decide) (fun c12 => ?_) (fun c12 => ?_)
    · rw [if_pos c12] at hf
      refine J_iload_n Z.1 2 dX12_wholesaleTrouble_59 rfl rfl ?_
      refine J_iconst Z.1 (v := 0) (by decide) dX12_wholesaleTrouble_60 ?_
      refine J_bipush Z.1 (v := 60) (by decide) dX12_wholesaleTrouble_61 ?_
      refine J_callS (as := [.int p3, .int 0, .int 60]) (rest := []) (sy := [.int (pX12_within p3 0 60)]) Z.1 dX12_wholesaleTrouble_63 cw_X12_109 (pX12_within_ok G (dk - 1) (by omega) g h p3 0 60) (zG Z) rfl (by decide) (zF Z (by omega)) (zO Z (by omega) (by decide)) (zM _) Z.2.1 Z.2.1 rfl rfl ?_
      refine J_if_eq Z.1 73 dX12_wholesaleTrouble_66 (by decide) (fun c13 => ?_) (fun c13 => ?_)
      · rw [if_pos c13] at hf
        refine J_iconst Z.1 (v := 5) (by decide) dX12_wholesaleTrouble_73 ?_
        cases hf
        exact J_iret Z.1 Z.2.2.2.2.2 dX12_wholesaleTrouble_74
      · rw [if_neg c13] at hf
        refine J_iconst Z.1 (v := 0) (by decide) dX12_wholesaleTrouble_69 ?_
        refine J_goto Z.1 74 dX12_wholesaleTrouble_70 (by decide) ?_
        cases hf
        exact J_iret Z.1 Z.2.2.2.2.2 dX12_wholesaleTrouble_74
    · rw [if_neg c12] at hf
      refine J_iconst Z.1 (v := 4) (by decide) dX12_wholesaleTrouble_57 ?_
      cases hf
      exact J_iret Z.1 Z.2.2.2.2.2 dX12_wholesaleTrouble_58
  · rw [if_pos c6] at hf
    refine J_iconst Z.1 (v := 3) (by decide) dX12_wholesaleTrouble_42 ?_
    cases hf
    exact J_iret Z.1 Z.2.2.2.2.2 dX12_wholesaleTrouble_43
def pX12_wholesaleTrouble (g : MT) (h : CT) (this : Nat) (p1 : Int32) (p2 : Int32) (p3 : Int32) : Option Int32 := tg g this 11 (if (pX12_isTray p2) = 0 then some 1 else if p3 ≤ 0 then pX12_wholesaleTrouble_b30 g h this p1 p2 p3   else if (pX12_isWord p1) = 0 then some 2 else if p3 ≤ (64 - p1) then pX12_wholesaleTrouble_b30 g h this p1 p2 p3   else some 2)
set_option maxRecDepth 10000 in
set_option maxHeartbeats 4000000 in
theorem pX12_wholesaleTrouble_ok (G : Gx) (dk : Nat) (hK : 2 ≤ dk) {g : MT} {h : CT} {this : Nat} {p1 : Int32} {p2 : Int32} {p3 : Int32} {r0 : Int32} (hf : pX12_wholesaleTrouble g h this p1 p2 p3 = some r0) : Ctr G dk yX12_wholesaleTrouble cX12_wholesaleTrouble 4 (some .int) [va_rf (some this), .int p1, .int p2, .int p3] g h (some (.int r0)) g h := by
  refine Ctr.ofZ (lv := [(0, va_rf (some this)), (1, .int p1), (2, .int p2), (3, .int p3)]) (by decide +kernel) (by simp [cat_i, cat_l, cat_d, cat_rf]) rfl fun X Z => ?_
  unfold pX12_wholesaleTrouble at hf
  obtain ⟨t0, hf⟩ := tg_i hf
  refine J_iload_n Z.1 2 dX12_wholesaleTrouble_0 rfl rfl ?_
  refine J_callS (as := [.int p2]) (rest := []) (sy := [.int (pX12_isTray p2)]) Z.1 dX12_wholesaleTrouble_1 cw_X12_113 (pX12_isTray_ok G (dk - 1) (by omega) g h p2) (zG Z) rfl (by decide) (zF Z (by omega)) (zO Z (by omega) (by decide)) (zM _) Z.2.1 Z.2.1 rfl rfl ?_
  refine J_if_ne Z.1 9 dX12_wholesaleTrouble_4 (by decide) (fun c1 => ?_) (fun c1 => ?_)
  · rw [if_neg c1] at hf
    refine J_iload_n Z.1 3 dX12_wholesaleTrouble_9 rfl rfl ?_
    refine J_if_le Z.1 30 dX12_wholesaleTrouble_10 (by decide) (fun c2 => ?_) (fun c2 => ?_)
    · rw [if_pos c2] at hf
      refine J_lv [0, 2, 3] rfl ?_
      exact pX12_wholesaleTrouble_b30_ok Z hK t0   hf
    · rw [if_neg c2] at hf
      refine J_iload_n Z.1 1 dX12_wholesaleTrouble_13 rfl rfl ?_
      refine J_callS (as := [.int p1]) (rest := []) (sy := [.int (pX12_isWord p1)]) Z.1 dX12_wholesaleTrouble_14 cw_X12_235 (pX12_isWord_ok G (dk - 1) (by omega) g h p1) (zG Z) rfl (by decide) (zF Z (by omega)) (zO Z (by omega) (by decide)) (zM _) Z.2.1 Z.2.1 rfl rfl ?_
      refine J_if_eq Z.1 28 dX12_wholesaleTrouble_17 (by decide) (fun c3 => ?_) (fun c3 => ?_)
      · rw [if_pos c3] at hf
        refine J_iconst Z.1 (v := 2) (by decide) dX12_wholesaleTrouble_28 ?_
        cases hf
        exact J_iret Z.1 Z.2.2.2.2.2 dX12_wholesaleTrouble_29
      · rw [if_neg c3] at hf
        refine J_iload_n Z.1 3 dX12_wholesaleTrouble_20 rfl rfl ?_
        refine J_bipush Z.1 (v := 64) (by decide) dX12_wholesaleTrouble_21 ?_
        refine J_iload_n Z.1 1 dX12_wholesaleTrouble_23 rfl rfl ?_
        refine J_isub Z.1 dX12_wholesaleTrouble_24 ?_
        refine J_icmp_le Z.1 30 dX12_wholesaleTrouble_25 (by decide) (fun c4 => ?_) (fun c4 => ?_)
        · rw [if_pos c4] at hf
          refine J_lv [0, 2, 3] rfl ?_
          exact pX12_wholesaleTrouble_b30_ok Z hK t0   hf
        · rw [if_neg c4] at hf
          refine J_iconst Z.1 (v := 2) (by decide) dX12_wholesaleTrouble_28 ?_
          cases hf
          exact J_iret Z.1 Z.2.2.2.2.2 dX12_wholesaleTrouble_29
  · rw [if_pos c1] at hf
    refine J_iconst Z.1 (v := 1) (by decide) dX12_wholesaleTrouble_7 ?_
    cases hf
    exact J_iret Z.1 Z.2.2.2.2.2 dX12_wholesaleTrouble_8
theorem dX12_pokeAll_0 : decode cX12_pokeAll 0 = .ok (.aload_n 0, 1) := by decide +kernel
theorem dX12_pokeAll_1 : decode cX12_pokeAll 1 = .ok (.iload_n 1, 1) := by decide +kernel
theorem dX12_pokeAll_2 : decode cX12_pokeAll 2 = .ok (.iload_n 2, 1) := by decide +kernel
theorem dX12_pokeAll_3 : decode cX12_pokeAll 3 = .ok (.iload_n 3, 1) := by decide +kernel
theorem dX12_pokeAll_4 : decode cX12_pokeAll 4 = .ok (.invokevirtual 272, 3) := by decide +kernel
theorem dX12_pokeAll_7 : decode cX12_pokeAll 7 = .ok (.istore 4, 2) := by decide +kernel
theorem dX12_pokeAll_9 : decode cX12_pokeAll 9 = .ok (.iload 4, 2) := by decide +kernel
theorem dX12_pokeAll_11 : decode cX12_pokeAll 11 = .ok (.ifCond .eq 10, 3) := by decide +kernel
theorem dX12_pokeAll_14 : decode cX12_pokeAll 14 = .ok (.aload_n 0, 1) := by decide +kernel
theorem dX12_pokeAll_15 : decode cX12_pokeAll 15 = .ok (.iload 4, 2) := by decide +kernel
theorem dX12_pokeAll_17 : decode cX12_pokeAll 17 = .ok (.invokevirtual 143, 3) := by decide +kernel
theorem dX12_pokeAll_20 : decode cX12_pokeAll 20 = .ok (.ireturn, 1) := by decide +kernel
theorem dX12_pokeAll_21 : decode cX12_pokeAll 21 = .ok (.iconst 0, 1) := by decide +kernel
theorem dX12_pokeAll_22 : decode cX12_pokeAll 22 = .ok (.istore 5, 2) := by decide +kernel
theorem dX12_pokeAll_24 : decode cX12_pokeAll 24 = .ok (.iload 5, 2) := by decide +kernel
theorem dX12_pokeAll_26 : decode cX12_pokeAll 26 = .ok (.iload_n 3, 1) := by decide +kernel
theorem dX12_pokeAll_27 : decode cX12_pokeAll 27 = .ok (.if_icmp .ge 46, 3) := by decide +kernel
theorem dX12_pokeAll_30 : decode cX12_pokeAll 30 = .ok (.aload_n 0, 1) := by decide +kernel
theorem dX12_pokeAll_31 : decode cX12_pokeAll 31 = .ok (.getfield 84, 3) := by decide +kernel
theorem dX12_pokeAll_34 : decode cX12_pokeAll 34 = .ok (.aload_n 0, 1) := by decide +kernel
theorem dX12_pokeAll_35 : decode cX12_pokeAll 35 = .ok (.getfield 11, 3) := by decide +kernel
theorem dX12_pokeAll_38 : decode cX12_pokeAll 38 = .ok (.iload_n 2, 1) := by decide +kernel
theorem dX12_pokeAll_39 : decode cX12_pokeAll 39 = .ok (.aaload, 1) := by decide +kernel
theorem dX12_pokeAll_40 : decode cX12_pokeAll 40 = .ok (.iload 5, 2) := by decide +kernel
theorem dX12_pokeAll_42 : decode cX12_pokeAll 42 = .ok (.invokevirtual 146, 3) := by decide +kernel
theorem dX12_pokeAll_45 : decode cX12_pokeAll 45 = .ok (.l2d, 1) := by decide +kernel
theorem dX12_pokeAll_46 : decode cX12_pokeAll 46 = .ok (.invokevirtual 249, 3) := by decide +kernel
theorem dX12_pokeAll_49 : decode cX12_pokeAll 49 = .ok (.aload_n 0, 1) := by decide +kernel
theorem dX12_pokeAll_50 : decode cX12_pokeAll 50 = .ok (.getfield 30, 3) := by decide +kernel
theorem dX12_pokeAll_53 : decode cX12_pokeAll 53 = .ok (.getfield 238, 3) := by decide +kernel
theorem dX12_pokeAll_56 : decode cX12_pokeAll 56 = .ok (.iload_n 1, 1) := by decide +kernel
theorem dX12_pokeAll_57 : decode cX12_pokeAll 57 = .ok (.iload 5, 2) := by decide +kernel
theorem dX12_pokeAll_59 : decode cX12_pokeAll 59 = .ok (.iadd, 1) := by decide +kernel
theorem dX12_pokeAll_60 : decode cX12_pokeAll 60 = .ok (.aload_n 0, 1) := by decide +kernel
theorem dX12_pokeAll_61 : decode cX12_pokeAll 61 = .ok (.getfield 84, 3) := by decide +kernel
theorem dX12_pokeAll_64 : decode cX12_pokeAll 64 = .ok (.invokevirtual 261, 3) := by decide +kernel
theorem dX12_pokeAll_67 : decode cX12_pokeAll 67 = .ok (.iinc 5 1, 3) := by decide +kernel
theorem dX12_pokeAll_70 : decode cX12_pokeAll 70 = .ok (.goto (-46), 3) := by decide +kernel
theorem dX12_pokeAll_73 : decode cX12_pokeAll 73 = .ok (.aload_n 0, 1) := by decide +kernel
theorem dX12_pokeAll_74 : decode cX12_pokeAll 74 = .ok (.iload_n 3, 1) := by decide +kernel
theorem dX12_pokeAll_75 : decode cX12_pokeAll 75 = .ok (.invokevirtual 105, 3) := by decide +kernel
theorem dX12_pokeAll_78 : decode cX12_pokeAll 78 = .ok (.ireturn, 1) := by decide +kernel
def pX12_pokeAll_b24 (g : MT) (this : Nat) (p1 : Int32) (p2 : Int32) (p3 : Int32) (k24 : Int32 → CT → Option ((Int32) × CT)) (l5 : Int32) (h : CT) : Option ((Int32) × CT) := if p3 ≤ l5 then bd2 (pX12_answer g h this p3) fun x4 h2 => (some (x4, h2)) else lt (hR h this 17) fun r5 => (lt (hR h this 0) fun r6 => (nn r6 fun a6 => (tg g a6 28 (ix (gL g a6) p2 (lt (hR h a6 (Int32.toNatClampNeg p2)) fun r9 => (nn r9 fun a9 => (tg g a9 10 (bd (pX11_fetch g h a9 l5) fun x11 => (nn r5 fun a5 => (tg g a5 4 (bd (pX4_set g h a5 (fl2d x11)) fun h14 => (lt (hR h14 this 4) fun r16 => (nn r16 fun a16 => (tg g a16 3 (lt (hR h14 a16 3) fun r18 => (lt (hR h14 this 17) fun r19 => (nn r18 fun a18 => (tg g a18 7 (nn r19 fun a19 => (bd (pX8_keep g h14 a18 (p1 + l5) a19) fun h21 => (lt (l5 + 1) fun x23 => (k24 x23 h21))))))))))))))))))))))
set_option maxRecDepth 10000 in
set_option maxHeartbeats 4000000 in
theorem pX12_pokeAll_b24_ok {X : Cx} {G : Gx} {dk : Nat} {g : MT} {r0 : Int32} {h0 : CT} {this : Nat} {p1 : Int32} {p2 : Int32} {p3 : Int32} {k24 : Int32 → CT → Option ((Int32) × CT)} (Z : Zx X G cX12_pokeAll RX12 6 dk (some .int) (some (.int r0)) g h0) (hK : 3 ≤ dk) (t0 : gT g this = 11) (hk24 : ∀ (l5 : Int32) (h : CT), k24 l5 h = some (r0, h0) → J X g h 24 [(0, va_rf (some this)), (1, .int p1), (2, .int p2), (3, .int p3), (5, .int l5)] []) (l5 : Int32) (h : CT) (hf : pX12_pokeAll_b24 g this p1 p2 p3 k24 l5 h = some (r0, h0)) : J X g h 24 [(0, va_rf (some this)), (1, .int p1), (2, .int p2), (3, .int p3), (5, .int l5)] [] := by
  unfold pX12_pokeAll_b24 at hf
  refine J_iload Z.1 4 dX12_pokeAll_24 rfl ?_
  refine J_iload_n Z.1 3 dX12_pokeAll_26 rfl rfl ?_
  refine J_icmp_ge Z.1 73 dX12_pokeAll_27 (by decide) (fun c1 => ?_) (fun c1 => ?_)
  · rw [if_pos c1] at hf
    refine J_aload_n Z.1 0 dX12_pokeAll_73 rfl rfl ?_
    refine J_iload_n Z.1 3 dX12_pokeAll_74 rfl rfl ?_
    obtain ⟨x4, h2, q3, hf⟩ := bd2_i hf
    refine J_callV (ci := 10) (as := [.int p3]) (rest := []) (sy := [.int x4]) Z.1 dX12_pokeAll_75 cw_X12_105 (pX12_answer_ok G (dk - 1) (by omega) q3) rfl rfl t0 (zG Z) rfl (by decide) (zF Z (by omega)) (zO Z (by omega) (by decide)) (zM _) Z.2.1 Z.2.1 rfl rfl ?_
    cases hf
    exact J_iret Z.1 Z.2.2.2.2.2 dX12_pokeAll_78
  · rw [if_neg c1] at hf
    refine J_aload_n Z.1 0 dX12_pokeAll_30 rfl rfl ?_
    refine J_get (v := va_rf (hR h this 17)) Z.1 dX12_pokeAll_31 fl_X12_84 t0 rfl ?_
    refine J_tr (fun r5 er5 => ?_)
    replace hf := lt_i hf r5 er5
    refine J_aload_n Z.1 0 dX12_pokeAll_34 rfl rfl ?_
    refine J_get (v := va_rf (hR h this 0)) Z.1 dX12_pokeAll_35 fl_X12_11 t0 rfl ?_
    refine J_tr (fun r6 er6 => ?_)
    replace hf := lt_i hf r6 er6
    refine J_iload_n Z.1 2 dX12_pokeAll_38 rfl rfl ?_
    replace hf := nn_i hf
    obtain ⟨a6, rfl, hf⟩ := hf
    obtain ⟨t7, hf⟩ := tg_i hf
    obtain ⟨i8, hf⟩ := ix_i hf
    refine J_aaload (t := 8) Z.1 dX12_pokeAll_39 t7 rfl i8 ?_
    refine J_tr (fun r9 er9 => ?_)
    replace hf := lt_i hf r9 er9
    refine J_iload Z.1 4 dX12_pokeAll_40 rfl ?_
    replace hf := nn_i hf
    obtain ⟨a9, rfl, hf⟩ := hf
    obtain ⟨t10, hf⟩ := tg_i hf
    obtain ⟨x11, q12, hf⟩ := bd_i hf
    refine J_callV (ci := 9) (as := [.int l5]) (rest := [va_rf r5]) (sy := [.long x11, va_rf r5]) Z.1 dX12_pokeAll_42 cw_X12_146 (pX11_fetch_ok G (dk - 1) (by omega) q12) rfl rfl t10 (zG Z) rfl (by simp [cat_i, cat_l, cat_d, cat_rf]) (zF Z (by omega)) (zO Z (by omega) (by decide)) (zM _) Z.2.1 Z.2.1 rfl rfl ?_
    refine J_l2d Z.1 dX12_pokeAll_45 ?_
    replace hf := nn_i hf
    obtain ⟨a5, rfl, hf⟩ := hf
    obtain ⟨t13, hf⟩ := tg_i hf
    obtain ⟨h14, q15, hf⟩ := bd_i hf
    refine J_callV (ci := 3) (as := [.double (fl2d x11)]) (rest := []) (sy := []) Z.1 dX12_pokeAll_46 cw_X12_249 (pX4_set_ok G (dk - 1) (by omega) q15) rfl rfl t13 (zG Z) rfl (by decide) (zF Z (by omega)) (zO Z (by omega) (by decide)) (zM _) Z.2.1 Z.2.1 rfl rfl ?_
    refine J_aload_n Z.1 0 dX12_pokeAll_49 rfl rfl ?_
    refine J_get (v := va_rf (hR h14 this 4)) Z.1 dX12_pokeAll_50 fl_X12_30 t0 rfl ?_
    refine J_tr (fun r16 er16 => ?_)
    replace hf := lt_i hf r16 er16
    replace hf := nn_i hf
    obtain ⟨a16, rfl, hf⟩ := hf
    obtain ⟨t17, hf⟩ := tg_i hf
    refine J_get (v := va_rf (hR h14 a16 3)) Z.1 dX12_pokeAll_53 fl_X12_238 t17 rfl ?_
    refine J_tr (fun r18 er18 => ?_)
    replace hf := lt_i hf r18 er18
    refine J_iload_n Z.1 1 dX12_pokeAll_56 rfl rfl ?_
    refine J_iload Z.1 4 dX12_pokeAll_57 rfl ?_
    refine J_iadd Z.1 dX12_pokeAll_59 ?_
    refine J_aload_n Z.1 0 dX12_pokeAll_60 rfl rfl ?_
    refine J_get (v := va_rf (hR h14 this 17)) Z.1 dX12_pokeAll_61 fl_X12_84 t0 rfl ?_
    refine J_tr (fun r19 er19 => ?_)
    replace hf := lt_i hf r19 er19
    replace hf := nn_i hf
    obtain ⟨a18, rfl, hf⟩ := hf
    obtain ⟨t20, hf⟩ := tg_i hf
    replace hf := nn_i hf
    obtain ⟨a19, rfl, hf⟩ := hf
    obtain ⟨h21, q22, hf⟩ := bd_i hf
    refine J_callV (ci := 6) (as := [.int (p1 + l5), va_rf (some a19)]) (rest := []) (sy := []) Z.1 dX12_pokeAll_64 cw_X12_261 (pX8_keep_ok G (dk - 1) (by omega) q22) rfl rfl t20 (zG Z) rfl (by decide) (zF Z (by omega)) (zO Z (by omega) (by decide)) (zM _) Z.2.1 Z.2.1 rfl rfl ?_
    refine J_iinc Z.1 (v := 1) (lv2 := [(5, .int (l5 + 1)), (0, va_rf (some this)), (1, .int p1), (2, .int p2), (3, .int p3)]) 4 dX12_pokeAll_67 rfl (by decide) (zL Z (by decide)) rfl ?_
    obtain ⟨x23, ex23⟩ : ∃ z, z = (l5 + 1) := ⟨_, rfl⟩
    replace hf := lt_i hf x23 ex23
    rw [← ex23]
    refine J_goto Z.1 24 dX12_pokeAll_70 (by decide) ?_
    refine J_lv [1, 2, 3, 4, 0] rfl ?_
    exact hk24 _ _ hf
def pX12_pokeAll_l24 (g : MT) (this : Nat) (p1 : Int32) (p2 : Int32) (p3 : Int32) : Nat → Int32 → CT → Option ((Int32) × CT)
  | 0, _, _ => none
  | n + 1, l5, h => pX12_pokeAll_b24 g this p1 p2 p3 (pX12_pokeAll_l24 g this p1 p2 p3 n) l5 h
theorem pX12_pokeAll_l24_ok {X : Cx} {G : Gx} {dk : Nat} {g : MT} {r0 : Int32} {h0 : CT} {this : Nat} {p1 : Int32} {p2 : Int32} {p3 : Int32} (Z : Zx X G cX12_pokeAll RX12 6 dk (some .int) (some (.int r0)) g h0) (hK : 3 ≤ dk) (t0 : gT g this = 11) : ∀ (n : Nat) (l5 : Int32) (h : CT), pX12_pokeAll_l24 g this p1 p2 p3 n l5 h = some (r0, h0) → J X g h 24 [(0, va_rf (some this)), (1, .int p1), (2, .int p2), (3, .int p3), (5, .int l5)] [] := by
  intro n
  induction n with
  | zero => intro l5 h hf; cases hf
  | succ n ih => intro l5 h hf; exact pX12_pokeAll_b24_ok Z hK t0 ih l5 h hf
def pX12_pokeAll (g : MT) (h : CT) (this : Nat) (p1 : Int32) (p2 : Int32) (p3 : Int32) : Option ((Int32) × CT) := tg g this 11 (bd (pX12_wholesaleTrouble g h this p1 p2 p3) fun x1 => (if x1 = 0 then pX12_pokeAll_l24 g this p1 p2 p3  FUEL 0 h else bd2 (pX12_refuse g h this x1) fun x6 h4 => (some (x6, h4))))
set_option maxRecDepth 10000 in
set_option maxHeartbeats 4000000 in
theorem pX12_pokeAll_ok (G : Gx) (dk : Nat) (hK : 3 ≤ dk) {g : MT} {h h0 : CT} {this : Nat} {p1 : Int32} {p2 : Int32} {p3 : Int32} {r0 : Int32} (hf : pX12_pokeAll g h this p1 p2 p3 = some (r0, h0)) : Ctr G dk yX12_pokeAll cX12_pokeAll 6 (some .int) [va_rf (some this), .int p1, .int p2, .int p3] g h (some (.int r0)) g h0 := by
  refine Ctr.ofZ (lv := [(0, va_rf (some this)), (1, .int p1), (2, .int p2), (3, .int p3)]) (by decide +kernel) (by simp [cat_i, cat_l, cat_d, cat_rf]) rfl fun X Z => ?_
  unfold pX12_pokeAll at hf
  obtain ⟨t0, hf⟩ := tg_i hf
  refine J_aload_n Z.1 0 dX12_pokeAll_0 rfl rfl ?_
  refine J_iload_n Z.1 1 dX12_pokeAll_1 rfl rfl ?_
  refine J_iload_n Z.1 2 dX12_pokeAll_2 rfl rfl ?_
  refine J_iload_n Z.1 3 dX12_pokeAll_3 rfl rfl ?_
  obtain ⟨x1, q2, hf⟩ := bd_i hf
  refine J_callV (ci := 10) (as := [.int p1, .int p2, .int p3]) (rest := []) (sy := [.int x1]) Z.1 dX12_pokeAll_4 cw_X12_272 (pX12_wholesaleTrouble_ok G (dk - 1) (by omega) q2) rfl rfl t0 (zG Z) rfl (by decide) (zF Z (by omega)) (zO Z (by omega) (by decide)) (zM _) Z.2.1 Z.2.1 rfl rfl ?_
  refine J_istore Z.1 (lv2 := [(4, .int x1), (0, va_rf (some this)), (1, .int p1), (2, .int p2), (3, .int p3)]) dX12_pokeAll_7 (zL Z (by decide)) rfl ?_
  refine J_iload Z.1 0 dX12_pokeAll_9 rfl ?_
  refine J_if_eq Z.1 21 dX12_pokeAll_11 (by decide) (fun c3 => ?_) (fun c3 => ?_)
  · rw [if_pos c3] at hf
    refine J_iconst Z.1 (v := 0) (by decide) dX12_pokeAll_21 ?_
    refine J_istore Z.1 (lv2 := [(5, .int 0), (4, .int x1), (0, va_rf (some this)), (1, .int p1), (2, .int p2), (3, .int p3)]) dX12_pokeAll_22 (zL Z (by decide)) rfl ?_
    refine J_lv [2, 3, 4, 5, 0] rfl ?_
    exact pX12_pokeAll_l24_ok Z hK t0  FUEL _ _ hf
  · rw [if_neg c3] at hf
    refine J_aload_n Z.1 1 dX12_pokeAll_14 rfl rfl ?_
    refine J_iload Z.1 0 dX12_pokeAll_15 rfl ?_
    obtain ⟨x6, h4, q5, hf⟩ := bd2_i hf
    refine J_callV (ci := 10) (as := [.int x1]) (rest := []) (sy := [.int x6]) Z.1 dX12_pokeAll_17 cw_X12_143 (pX12_refuse_ok G (dk - 1) (by omega) q5) rfl rfl t0 (zG Z) rfl (by decide) (zF Z (by omega)) (zO Z (by omega) (by decide)) (zM _) Z.2.1 Z.2.1 rfl rfl ?_
    cases hf
    exact J_iret Z.1 Z.2.2.2.2.2 dX12_pokeAll_20
theorem dX12_drop_0 : decode cX12_drop 0 = .ok (.aload_n 0, 1) := by decide +kernel
theorem dX12_drop_1 : decode cX12_drop 1 = .ok (.iload_n 1, 1) := by decide +kernel
theorem dX12_drop_2 : decode cX12_drop 2 = .ok (.invokevirtual 216, 3) := by decide +kernel
theorem dX12_drop_5 : decode cX12_drop 5 = .ok (.istore_n 2, 1) := by decide +kernel
theorem dX12_drop_6 : decode cX12_drop 6 = .ok (.iload_n 2, 1) := by decide +kernel
theorem dX12_drop_7 : decode cX12_drop 7 = .ok (.ifCond .eq 9, 3) := by decide +kernel
theorem dX12_drop_10 : decode cX12_drop 10 = .ok (.aload_n 0, 1) := by decide +kernel
theorem dX12_drop_11 : decode cX12_drop 11 = .ok (.iload_n 2, 1) := by decide +kernel
theorem dX12_drop_12 : decode cX12_drop 12 = .ok (.invokevirtual 117, 3) := by decide +kernel
theorem dX12_drop_15 : decode cX12_drop 15 = .ok (.ireturn, 1) := by decide +kernel
theorem dX12_drop_16 : decode cX12_drop 16 = .ok (.aload_n 0, 1) := by decide +kernel
theorem dX12_drop_17 : decode cX12_drop 17 = .ok (.getfield 30, 3) := by decide +kernel
theorem dX12_drop_20 : decode cX12_drop 20 = .ok (.getfield 209, 3) := by decide +kernel
theorem dX12_drop_23 : decode cX12_drop 23 = .ok (.iload_n 1, 1) := by decide +kernel
theorem dX12_drop_24 : decode cX12_drop 24 = .ok (.iconst 0, 1) := by decide +kernel
theorem dX12_drop_25 : decode cX12_drop 25 = .ok (.bastore, 1) := by decide +kernel
theorem dX12_drop_26 : decode cX12_drop 26 = .ok (.aload_n 0, 1) := by decide +kernel
theorem dX12_drop_27 : decode cX12_drop 27 = .ok (.invokevirtual 124, 3) := by decide +kernel
theorem dX12_drop_30 : decode cX12_drop 30 = .ok (.ireturn, 1) := by decide +kernel
def pX12_drop (g : MT) (h : CT) (this : Nat) (p1 : Int32) : Option ((Int32) × CT) := tg g this 11 (bd (pX12_rowTrouble g h this p1) fun x1 => (if x1 = 0 then lt (hR h this 4) fun r4 => (nn r4 fun a4 => (tg g a4 3 (lt (hR h a4 1) fun r6 => (nn r6 fun a6 => (tg g a6 24 (ix (gL g a6) p1 (lt (sI h a6 (Int32.toNatClampNeg p1) (vp_nar .boolean 0)) fun h9 => (bd2 (pX12_agree g h9 this) fun x12 h10 => (bz x12 (some (x12, h10))))))))))) else bd2 (pX12_deny g h this x1) fun x16 h14 => (bz x16 (some (x16, h14)))))
set_option maxRecDepth 10000 in
set_option maxHeartbeats 4000000 in
theorem pX12_drop_ok (G : Gx) (dk : Nat) (hK : 2 ≤ dk) {g : MT} {h h0 : CT} {this : Nat} {p1 : Int32} {r0 : Int32} (hf : pX12_drop g h this p1 = some (r0, h0)) : Ctr G dk yX12_drop cX12_drop 3 (some .boolean) [va_rf (some this), .int p1] g h (some (.int r0)) g h0 := by
  refine Ctr.ofZ (lv := [(0, va_rf (some this)), (1, .int p1)]) (by decide +kernel) (by simp [cat_i, cat_l, cat_d, cat_rf]) rfl fun X Z => ?_
  unfold pX12_drop at hf
  obtain ⟨t0, hf⟩ := tg_i hf
  refine J_aload_n Z.1 0 dX12_drop_0 rfl rfl ?_
  refine J_iload_n Z.1 1 dX12_drop_1 rfl rfl ?_
  obtain ⟨x1, q2, hf⟩ := bd_i hf
  refine J_callV (ci := 10) (as := [.int p1]) (rest := []) (sy := [.int x1]) Z.1 dX12_drop_2 cw_X12_216 (pX12_rowTrouble_ok G (dk - 1) (by omega) q2) rfl rfl t0 (zG Z) rfl (by decide) (zF Z (by omega)) (zO Z (by omega) (by decide)) (zM _) Z.2.1 Z.2.1 rfl rfl ?_
  refine J_istore_n Z.1 (lv2 := [(2, .int x1), (0, va_rf (some this)), (1, .int p1)]) dX12_drop_5 rfl (zL Z (by decide)) rfl ?_
  refine J_iload_n Z.1 0 dX12_drop_6 rfl rfl ?_
  refine J_if_eq Z.1 16 dX12_drop_7 (by decide) (fun c3 => ?_) (fun c3 => ?_)
  · rw [if_pos c3] at hf
    refine J_aload_n Z.1 1 dX12_drop_16 rfl rfl ?_
    refine J_get (v := va_rf (hR h this 4)) Z.1 dX12_drop_17 fl_X12_30 t0 rfl ?_
    refine J_tr (fun r4 er4 => ?_)
    replace hf := lt_i hf r4 er4
    replace hf := nn_i hf
    obtain ⟨a4, rfl, hf⟩ := hf
    obtain ⟨t5, hf⟩ := tg_i hf
    refine J_get (v := va_rf (hR h a4 1)) Z.1 dX12_drop_20 fl_X12_209 t5 rfl ?_
    refine J_tr (fun r6 er6 => ?_)
    replace hf := lt_i hf r6 er6
    refine J_iload_n Z.1 2 dX12_drop_23 rfl rfl ?_
    refine J_iconst Z.1 (v := 0) (by decide) dX12_drop_24 ?_
    replace hf := nn_i hf
    obtain ⟨a6, rfl, hf⟩ := hf
    obtain ⟨t7, hf⟩ := tg_i hf
    obtain ⟨i8, hf⟩ := ix_i hf
    refine J_zastore Z.1 dX12_drop_25 t7 i8 ?_
    refine J_th (fun h9 eh9 => ?_)
    replace hf := lt_i hf h9 eh9
    refine J_aload_n Z.1 1 dX12_drop_26 rfl rfl ?_
    obtain ⟨x12, h10, q11, hf⟩ := bd2_i hf
    refine J_callV (ci := 10) (as := []) (rest := []) (sy := [.int x12]) Z.1 dX12_drop_27 cw_X12_124 (pX12_agree_ok G (dk - 1) (by omega) q11) rfl rfl t0 (zG Z) rfl (by decide) (zF Z (by omega)) (zO Z (by omega) (by decide)) (zM _) Z.2.1 Z.2.1 rfl rfl ?_
    obtain ⟨z13, hf⟩ := bz_i hf
    cases hf
    exact J_zret Z.1 Z.2.2.2.2.2 (z_n z13) dX12_drop_30
  · rw [if_neg c3] at hf
    refine J_aload_n Z.1 1 dX12_drop_10 rfl rfl ?_
    refine J_iload_n Z.1 0 dX12_drop_11 rfl rfl ?_
    obtain ⟨x16, h14, q15, hf⟩ := bd2_i hf
    refine J_callV (ci := 10) (as := [.int x1]) (rest := []) (sy := [.int x16]) Z.1 dX12_drop_12 cw_X12_117 (pX12_deny_ok G (dk - 1) (by omega) q15) rfl rfl t0 (zG Z) rfl (by decide) (zF Z (by omega)) (zO Z (by omega) (by decide)) (zM _) Z.2.1 Z.2.1 rfl rfl ?_
    obtain ⟨z17, hf⟩ := bz_i hf
    cases hf
    exact J_zret Z.1 Z.2.2.2.2.2 (z_n z17) dX12_drop_15
theorem dX12_rule_0 : decode cX12_rule 0 = .ok (.iload_n 1, 1) := by decide +kernel
theorem dX12_rule_1 : decode cX12_rule 1 = .ok (.ifCond .ne 24, 3) := by decide +kernel
theorem dX12_rule_4 : decode cX12_rule 4 = .ok (.iload_n 2, 1) := by decide +kernel
theorem dX12_rule_5 : decode cX12_rule 5 = .ok (.iconst 0, 1) := by decide +kernel
theorem dX12_rule_6 : decode cX12_rule 6 = .ok (.bipush 16, 2) := by decide +kernel
theorem dX12_rule_8 : decode cX12_rule 8 = .ok (.invokestatic 109, 3) := by decide +kernel
theorem dX12_rule_11 : decode cX12_rule 11 = .ok (.ifCond .eq 14, 3) := by decide +kernel
theorem dX12_rule_14 : decode cX12_rule 14 = .ok (.aload_n 0, 1) := by decide +kernel
theorem dX12_rule_15 : decode cX12_rule 15 = .ok (.getfield 30, 3) := by decide +kernel
theorem dX12_rule_18 : decode cX12_rule 18 = .ok (.iload_n 2, 1) := by decide +kernel
theorem dX12_rule_19 : decode cX12_rule 19 = .ok (.putfield 193, 3) := by decide +kernel
theorem dX12_rule_22 : decode cX12_rule 22 = .ok (.goto 88, 3) := by decide +kernel
theorem dX12_rule_25 : decode cX12_rule 25 = .ok (.iload_n 1, 1) := by decide +kernel
theorem dX12_rule_26 : decode cX12_rule 26 = .ok (.iconst 1, 1) := by decide +kernel
theorem dX12_rule_27 : decode cX12_rule 27 = .ok (.if_icmp .ne 24, 3) := by decide +kernel
theorem dX12_rule_30 : decode cX12_rule 30 = .ok (.iload_n 2, 1) := by decide +kernel
theorem dX12_rule_31 : decode cX12_rule 31 = .ok (.iconst 1, 1) := by decide +kernel
theorem dX12_rule_32 : decode cX12_rule 32 = .ok (.bipush 16, 2) := by decide +kernel
theorem dX12_rule_34 : decode cX12_rule 34 = .ok (.invokestatic 109, 3) := by decide +kernel
theorem dX12_rule_37 : decode cX12_rule 37 = .ok (.ifCond .eq 14, 3) := by decide +kernel
theorem dX12_rule_40 : decode cX12_rule 40 = .ok (.aload_n 0, 1) := by decide +kernel
theorem dX12_rule_41 : decode cX12_rule 41 = .ok (.getfield 30, 3) := by decide +kernel
theorem dX12_rule_44 : decode cX12_rule 44 = .ok (.iload_n 2, 1) := by decide +kernel
theorem dX12_rule_45 : decode cX12_rule 45 = .ok (.putfield 196, 3) := by decide +kernel
theorem dX12_rule_48 : decode cX12_rule 48 = .ok (.goto 62, 3) := by decide +kernel
theorem dX12_rule_51 : decode cX12_rule 51 = .ok (.iload_n 1, 1) := by decide +kernel
theorem dX12_rule_52 : decode cX12_rule 52 = .ok (.iconst 2, 1) := by decide +kernel
theorem dX12_rule_53 : decode cX12_rule 53 = .ok (.if_icmp .ne 24, 3) := by decide +kernel
theorem dX12_rule_56 : decode cX12_rule 56 = .ok (.iload_n 2, 1) := by decide +kernel
theorem dX12_rule_57 : decode cX12_rule 57 = .ok (.iconst 1, 1) := by decide +kernel
theorem dX12_rule_58 : decode cX12_rule 58 = .ok (.bipush 12, 2) := by decide +kernel
theorem dX12_rule_60 : decode cX12_rule 60 = .ok (.invokestatic 109, 3) := by decide +kernel
theorem dX12_rule_63 : decode cX12_rule 63 = .ok (.ifCond .eq 14, 3) := by decide +kernel
theorem dX12_rule_66 : decode cX12_rule 66 = .ok (.aload_n 0, 1) := by decide +kernel
theorem dX12_rule_67 : decode cX12_rule 67 = .ok (.getfield 30, 3) := by decide +kernel
theorem dX12_rule_70 : decode cX12_rule 70 = .ok (.iload_n 2, 1) := by decide +kernel
theorem dX12_rule_71 : decode cX12_rule 71 = .ok (.putfield 199, 3) := by decide +kernel
theorem dX12_rule_74 : decode cX12_rule 74 = .ok (.goto 36, 3) := by decide +kernel
theorem dX12_rule_77 : decode cX12_rule 77 = .ok (.iload_n 1, 1) := by decide +kernel
theorem dX12_rule_78 : decode cX12_rule 78 = .ok (.iconst 3, 1) := by decide +kernel
theorem dX12_rule_79 : decode cX12_rule 79 = .ok (.if_icmp .ne 25, 3) := by decide +kernel
theorem dX12_rule_82 : decode cX12_rule 82 = .ok (.iload_n 2, 1) := by decide +kernel
theorem dX12_rule_83 : decode cX12_rule 83 = .ok (.iconst 0, 1) := by decide +kernel
theorem dX12_rule_84 : decode cX12_rule 84 = .ok (.ldc_w 280, 3) := by decide +kernel
theorem dX12_rule_87 : decode cX12_rule 87 = .ok (.invokestatic 109, 3) := by decide +kernel
theorem dX12_rule_90 : decode cX12_rule 90 = .ok (.ifCond .eq 14, 3) := by decide +kernel
theorem dX12_rule_93 : decode cX12_rule 93 = .ok (.aload_n 0, 1) := by decide +kernel
theorem dX12_rule_94 : decode cX12_rule 94 = .ok (.getfield 30, 3) := by decide +kernel
theorem dX12_rule_97 : decode cX12_rule 97 = .ok (.iload_n 2, 1) := by decide +kernel
theorem dX12_rule_98 : decode cX12_rule 98 = .ok (.putfield 202, 3) := by decide +kernel
theorem dX12_rule_101 : decode cX12_rule 101 = .ok (.goto 9, 3) := by decide +kernel
theorem dX12_rule_104 : decode cX12_rule 104 = .ok (.aload_n 0, 1) := by decide +kernel
theorem dX12_rule_105 : decode cX12_rule 105 = .ok (.iconst 5, 1) := by decide +kernel
theorem dX12_rule_106 : decode cX12_rule 106 = .ok (.invokevirtual 117, 3) := by decide +kernel
theorem dX12_rule_109 : decode cX12_rule 109 = .ok (.ireturn, 1) := by decide +kernel
theorem dX12_rule_110 : decode cX12_rule 110 = .ok (.aload_n 0, 1) := by decide +kernel
theorem dX12_rule_111 : decode cX12_rule 111 = .ok (.invokevirtual 124, 3) := by decide +kernel
theorem dX12_rule_114 : decode cX12_rule 114 = .ok (.ireturn, 1) := by decide +kernel
def pX12_rule_b104 (g : MT) (this : Nat) (p1 : Int32) (p2 : Int32) (h : CT) : Option ((Int32) × CT) := bd2 (pX12_deny g h this 5) fun x3 h1 => (bz x3 (some (x3, h1)))
set_option maxRecDepth 10000 in
set_option maxHeartbeats 4000000 in
theorem pX12_rule_b104_ok {X : Cx} {G : Gx} {dk : Nat} {g : MT} {r0 : Int32} {h0 : CT} {this : Nat} {p1 : Int32} {p2 : Int32} (Z : Zx X G cX12_rule RX12 3 dk (some .boolean) (some (.int r0)) g h0) (hK : 1 ≤ dk) (t0 : gT g this = 11) (h : CT) (hf : pX12_rule_b104 g this p1 p2 h = some (r0, h0)) : J X g h 104 [(0, va_rf (some this))] [] := by
  unfold pX12_rule_b104 at hf
  refine J_aload_n Z.1 0 dX12_rule_104 rfl rfl ?_
  refine J_iconst Z.1 (v := 5) (by decide) dX12_rule_105 ?_
  obtain ⟨x3, h1, q2, hf⟩ := bd2_i hf
  refine J_callV (ci := 10) (as := [.int 5]) (rest := []) (sy := [.int x3]) Z.1 dX12_rule_106 cw_X12_117 (pX12_deny_ok G (dk - 1) (by omega) q2) rfl rfl t0 (zG Z) rfl (by decide) (zF Z (by omega)) (zO Z (by omega) (by decide)) (zM _) Z.2.1 Z.2.1 rfl rfl ?_
  obtain ⟨z4, hf⟩ := bz_i hf
  cases hf
  exact J_zret Z.1 Z.2.2.2.2.2 (z_n z4) dX12_rule_109
def pX12_rule_b110 (g : MT) (this : Nat) (p1 : Int32) (p2 : Int32) (h : CT) : Option ((Int32) × CT) := bd2 (pX12_agree g h this) fun x3 h1 => (bz x3 (some (x3, h1)))
set_option maxRecDepth 10000 in
set_option maxHeartbeats 4000000 in
theorem pX12_rule_b110_ok {X : Cx} {G : Gx} {dk : Nat} {g : MT} {r0 : Int32} {h0 : CT} {this : Nat} {p1 : Int32} {p2 : Int32} (Z : Zx X G cX12_rule RX12 3 dk (some .boolean) (some (.int r0)) g h0) (hK : 1 ≤ dk) (t0 : gT g this = 11) (h : CT) (hf : pX12_rule_b110 g this p1 p2 h = some (r0, h0)) : J X g h 110 [(0, va_rf (some this))] [] := by
  unfold pX12_rule_b110 at hf
  refine J_aload_n Z.1 0 dX12_rule_110 rfl rfl ?_
  obtain ⟨x3, h1, q2, hf⟩ := bd2_i hf
  refine J_callV (ci := 10) (as := []) (rest := []) (sy := [.int x3]) Z.1 dX12_rule_111 cw_X12_124 (pX12_agree_ok G (dk - 1) (by omega) q2) rfl rfl t0 (zG Z) rfl (by decide) (zF Z (by omega)) (zO Z (by omega) (by decide)) (zM _) Z.2.1 Z.2.1 rfl rfl ?_
  obtain ⟨z4, hf⟩ := bz_i hf
  cases hf
  exact J_zret Z.1 Z.2.2.2.2.2 (z_n z4) dX12_rule_114
def pX12_rule_b77 (g : MT) (this : Nat) (p1 : Int32) (p2 : Int32) (h : CT) : Option ((Int32) × CT) := if p1 = 3 then if (pX12_within p2 0 65535) = 0 then pX12_rule_b104 g this p1 p2  h else lt (hR h this 4) fun r3 => (nn r3 fun a3 => (tg g a3 3 (lt (sI h a3 4 p2) fun h5 => (pX12_rule_b110 g this p1 p2  h5)))) else pX12_rule_b104 g this p1 p2  h
set_option maxRecDepth 10000 in
set_option maxHeartbeats 4000000 in
theorem pX12_rule_b77_ok {X : Cx} {G : Gx} {dk : Nat} {g : MT} {r0 : Int32} {h0 : CT} {this : Nat} {p1 : Int32} {p2 : Int32} (Z : Zx X G cX12_rule RX12 3 dk (some .boolean) (some (.int r0)) g h0) (hK : 1 ≤ dk) (t0 : gT g this = 11) (h : CT) (hf : pX12_rule_b77 g this p1 p2 h = some (r0, h0)) : J X g h 77 [(0, va_rf (some this)), (1, .int p1), (2, .int p2)] [] := by
  unfold pX12_rule_b77 at hf
  refine J_iload_n Z.1 1 dX12_rule_77 rfl rfl ?_
  refine J_iconst Z.1 (v := 3) (by decide) dX12_rule_78 ?_
  refine J_icmp_ne Z.1 104 dX12_rule_79 (by decide) (fun c1 => ?_) (fun c1 => ?_)
  · rw [if_neg c1] at hf
    refine J_lv [0] rfl ?_
    exact pX12_rule_b104_ok Z hK t0  _ hf
  · rw [if_pos c1] at hf
    refine J_iload_n Z.1 2 dX12_rule_82 rfl rfl ?_
    refine J_iconst Z.1 (v := 0) (by decide) dX12_rule_83 ?_
    refine J_ldcw Z.1 q_964 dX12_rule_84 ?_
    refine J_callS (as := [.int p2, .int 0, .int 65535]) (rest := []) (sy := [.int (pX12_within p2 0 65535)]) Z.1 dX12_rule_87 cw_X12_109 (pX12_within_ok G (dk - 1) (by omega) g h p2 0 65535) (zG Z) rfl (by decide) (zF Z (by omega)) (zO Z (by omega) (by decide)) (zM _) Z.2.1 Z.2.1 rfl rfl ?_
    refine J_if_eq Z.1 104 dX12_rule_90 (by decide) (fun c2 => ?_) (fun c2 => ?_)
    · rw [if_pos c2] at hf
      refine J_lv [0] rfl ?_
      exact pX12_rule_b104_ok Z hK t0  _ hf
    · rw [if_neg c2] at hf
      refine J_aload_n Z.1 0 dX12_rule_93 rfl rfl ?_
      refine J_get (v := va_rf (hR h this 4)) Z.1 dX12_rule_94 fl_X12_30 t0 rfl ?_
      refine J_tr (fun r3 er3 => ?_)
      replace hf := lt_i hf r3 er3
      refine J_iload_n Z.1 2 dX12_rule_97 rfl rfl ?_
      replace hf := nn_i hf
      obtain ⟨a3, rfl, hf⟩ := hf
      obtain ⟨t4, hf⟩ := tg_i hf
      refine J_putI Z.1 dX12_rule_98 fl_X12_202 (fun q => by cases q) t4 rfl rfl (congrArg Value.int (hI_s _ _ _ _)) ?_
      refine J_th (fun h5 eh5 => ?_)
      replace hf := lt_i hf h5 eh5
      refine J_goto Z.1 110 dX12_rule_101 (by decide) ?_
      refine J_lv [0] rfl ?_
      exact pX12_rule_b110_ok Z hK t0  _ hf
def pX12_rule_b51 (g : MT) (this : Nat) (p1 : Int32) (p2 : Int32) (h : CT) : Option ((Int32) × CT) := if p1 = 2 then if (pX12_within p2 1 12) = 0 then pX12_rule_b77 g this p1 p2  h else lt (hR h this 4) fun r3 => (nn r3 fun a3 => (tg g a3 3 (lt (sI h a3 7 p2) fun h5 => (pX12_rule_b110 g this p1 p2  h5)))) else pX12_rule_b77 g this p1 p2  h
set_option maxRecDepth 10000 in
set_option maxHeartbeats 4000000 in
theorem pX12_rule_b51_ok {X : Cx} {G : Gx} {dk : Nat} {g : MT} {r0 : Int32} {h0 : CT} {this : Nat} {p1 : Int32} {p2 : Int32} (Z : Zx X G cX12_rule RX12 3 dk (some .boolean) (some (.int r0)) g h0) (hK : 1 ≤ dk) (t0 : gT g this = 11) (h : CT) (hf : pX12_rule_b51 g this p1 p2 h = some (r0, h0)) : J X g h 51 [(0, va_rf (some this)), (1, .int p1), (2, .int p2)] [] := by
  unfold pX12_rule_b51 at hf
  refine J_iload_n Z.1 1 dX12_rule_51 rfl rfl ?_
  refine J_iconst Z.1 (v := 2) (by decide) dX12_rule_52 ?_
  refine J_icmp_ne Z.1 77 dX12_rule_53 (by decide) (fun c1 => ?_) (fun c1 => ?_)
  · rw [if_neg c1] at hf
    exact pX12_rule_b77_ok Z hK t0  _ hf
  · rw [if_pos c1] at hf
    refine J_iload_n Z.1 2 dX12_rule_56 rfl rfl ?_
    refine J_iconst Z.1 (v := 1) (by decide) dX12_rule_57 ?_
    refine J_bipush Z.1 (v := 12) (by decide) dX12_rule_58 ?_
    refine J_callS (as := [.int p2, .int 1, .int 12]) (rest := []) (sy := [.int (pX12_within p2 1 12)]) Z.1 dX12_rule_60 cw_X12_109 (pX12_within_ok G (dk - 1) (by omega) g h p2 1 12) (zG Z) rfl (by decide) (zF Z (by omega)) (zO Z (by omega) (by decide)) (zM _) Z.2.1 Z.2.1 rfl rfl ?_
    refine J_if_eq Z.1 77 dX12_rule_63 (by decide) (fun c2 => ?_) (fun c2 => ?_)
    · rw [if_pos c2] at hf
      exact pX12_rule_b77_ok Z hK t0  _ hf
    · rw [if_neg c2] at hf
      refine J_aload_n Z.1 0 dX12_rule_66 rfl rfl ?_
      refine J_get (v := va_rf (hR h this 4)) Z.1 dX12_rule_67 fl_X12_30 t0 rfl ?_
      refine J_tr (fun r3 er3 => ?_)
      replace hf := lt_i hf r3 er3
      refine J_iload_n Z.1 2 dX12_rule_70 rfl rfl ?_
      replace hf := nn_i hf
      obtain ⟨a3, rfl, hf⟩ := hf
      obtain ⟨t4, hf⟩ := tg_i hf
      refine J_putI Z.1 dX12_rule_71 fl_X12_199 (fun q => by cases q) t4 rfl rfl (congrArg Value.int (hI_s _ _ _ _)) ?_
      refine J_th (fun h5 eh5 => ?_)
      replace hf := lt_i hf h5 eh5
      refine J_goto Z.1 110 dX12_rule_74 (by decide) ?_
      refine J_lv [0] rfl ?_
      exact pX12_rule_b110_ok Z hK t0  _ hf
def pX12_rule_b25 (g : MT) (this : Nat) (p1 : Int32) (p2 : Int32) (h : CT) : Option ((Int32) × CT) := if p1 = 1 then if (pX12_within p2 1 16) = 0 then pX12_rule_b51 g this p1 p2  h else lt (hR h this 4) fun r3 => (nn r3 fun a3 => (tg g a3 3 (lt (sI h a3 6 p2) fun h5 => (pX12_rule_b110 g this p1 p2  h5)))) else pX12_rule_b51 g this p1 p2  h
set_option maxRecDepth 10000 in
set_option maxHeartbeats 4000000 in
theorem pX12_rule_b25_ok {X : Cx} {G : Gx} {dk : Nat} {g : MT} {r0 : Int32} {h0 : CT} {this : Nat} {p1 : Int32} {p2 : Int32} (Z : Zx X G cX12_rule RX12 3 dk (some .boolean) (some (.int r0)) g h0) (hK : 1 ≤ dk) (t0 : gT g this = 11) (h : CT) (hf : pX12_rule_b25 g this p1 p2 h = some (r0, h0)) : J X g h 25 [(0, va_rf (some this)), (1, .int p1), (2, .int p2)] [] := by
  unfold pX12_rule_b25 at hf
  refine J_iload_n Z.1 1 dX12_rule_25 rfl rfl ?_
  refine J_iconst Z.1 (v := 1) (by decide) dX12_rule_26 ?_
  refine J_icmp_ne Z.1 51 dX12_rule_27 (by decide) (fun c1 => ?_) (fun c1 => ?_)
  · rw [if_neg c1] at hf
    exact pX12_rule_b51_ok Z hK t0  _ hf
  · rw [if_pos c1] at hf
    refine J_iload_n Z.1 2 dX12_rule_30 rfl rfl ?_
    refine J_iconst Z.1 (v := 1) (by decide) dX12_rule_31 ?_
    refine J_bipush Z.1 (v := 16) (by decide) dX12_rule_32 ?_
    refine J_callS (as := [.int p2, .int 1, .int 16]) (rest := []) (sy := [.int (pX12_within p2 1 16)]) Z.1 dX12_rule_34 cw_X12_109 (pX12_within_ok G (dk - 1) (by omega) g h p2 1 16) (zG Z) rfl (by decide) (zF Z (by omega)) (zO Z (by omega) (by decide)) (zM _) Z.2.1 Z.2.1 rfl rfl ?_
    refine J_if_eq Z.1 51 dX12_rule_37 (by decide) (fun c2 => ?_) (fun c2 => ?_)
    · rw [if_pos c2] at hf
      exact pX12_rule_b51_ok Z hK t0  _ hf
    · rw [if_neg c2] at hf
      refine J_aload_n Z.1 0 dX12_rule_40 rfl rfl ?_
      refine J_get (v := va_rf (hR h this 4)) Z.1 dX12_rule_41 fl_X12_30 t0 rfl ?_
      refine J_tr (fun r3 er3 => ?_)
      replace hf := lt_i hf r3 er3
      refine J_iload_n Z.1 2 dX12_rule_44 rfl rfl ?_
      replace hf := nn_i hf
      obtain ⟨a3, rfl, hf⟩ := hf
      obtain ⟨t4, hf⟩ := tg_i hf
      refine J_putI Z.1 dX12_rule_45 fl_X12_196 (fun q => by cases q) t4 rfl rfl (congrArg Value.int (hI_s _ _ _ _)) ?_
      refine J_th (fun h5 eh5 => ?_)
      replace hf := lt_i hf h5 eh5
      refine J_goto Z.1 110 dX12_rule_48 (by decide) ?_
      refine J_lv [0] rfl ?_
      exact pX12_rule_b110_ok Z hK t0  _ hf
def pX12_rule (g : MT) (h : CT) (this : Nat) (p1 : Int32) (p2 : Int32) : Option ((Int32) × CT) := tg g this 11 (if p1 = 0 then if (pX12_within p2 0 16) = 0 then pX12_rule_b25 g this p1 p2  h else lt (hR h this 4) fun r3 => (nn r3 fun a3 => (tg g a3 3 (lt (sI h a3 5 p2) fun h5 => (pX12_rule_b110 g this p1 p2  h5)))) else pX12_rule_b25 g this p1 p2  h)
set_option maxRecDepth 10000 in
set_option maxHeartbeats 4000000 in
theorem pX12_rule_ok (G : Gx) (dk : Nat) (hK : 1 ≤ dk) {g : MT} {h h0 : CT} {this : Nat} {p1 : Int32} {p2 : Int32} {r0 : Int32} (hf : pX12_rule g h this p1 p2 = some (r0, h0)) : Ctr G dk yX12_rule cX12_rule 3 (some .boolean) [va_rf (some this), .int p1, .int p2] g h (some (.int r0)) g h0 := by
  refine Ctr.ofZ (lv := [(0, va_rf (some this)), (1, .int p1), (2, .int p2)]) (by decide +kernel) (by simp [cat_i, cat_l, cat_d, cat_rf]) rfl fun X Z => ?_
  unfold pX12_rule at hf
  obtain ⟨t0, hf⟩ := tg_i hf
  refine J_iload_n Z.1 1 dX12_rule_0 rfl rfl ?_
  refine J_if_ne Z.1 25 dX12_rule_1 (by decide) (fun c1 => ?_) (fun c1 => ?_)
  · rw [if_neg c1] at hf
    exact pX12_rule_b25_ok Z hK t0  _ hf
  · rw [if_pos c1] at hf
    refine J_iload_n Z.1 2 dX12_rule_4 rfl rfl ?_
    refine J_iconst Z.1 (v := 0) (by decide) dX12_rule_5 ?_
    refine J_bipush Z.1 (v := 16) (by decide) dX12_rule_6 ?_
    refine J_callS (as := [.int p2, .int 0, .int 16]) (rest := []) (sy := [.int (pX12_within p2 0 16)]) Z.1 dX12_rule_8 cw_X12_109 (pX12_within_ok G (dk - 1) (by omega) g h p2 0 16) (zG Z) rfl (by decide) (zF Z (by omega)) (zO Z (by omega) (by decide)) (zM _) Z.2.1 Z.2.1 rfl rfl ?_
    refine J_if_eq Z.1 25 dX12_rule_11 (by decide) (fun c2 => ?_) (fun c2 => ?_)
    · rw [if_pos c2] at hf
      exact pX12_rule_b25_ok Z hK t0  _ hf
    · rw [if_neg c2] at hf
      refine J_aload_n Z.1 0 dX12_rule_14 rfl rfl ?_
      refine J_get (v := va_rf (hR h this 4)) Z.1 dX12_rule_15 fl_X12_30 t0 rfl ?_
      refine J_tr (fun r3 er3 => ?_)
      replace hf := lt_i hf r3 er3
      refine J_iload_n Z.1 2 dX12_rule_18 rfl rfl ?_
      replace hf := nn_i hf
      obtain ⟨a3, rfl, hf⟩ := hf
      obtain ⟨t4, hf⟩ := tg_i hf
      refine J_putI Z.1 dX12_rule_19 fl_X12_193 (fun q => by cases q) t4 rfl rfl (congrArg Value.int (hI_s _ _ _ _)) ?_
      refine J_th (fun h5 eh5 => ?_)
      replace hf := lt_i hf h5 eh5
      refine J_goto Z.1 110 dX12_rule_22 (by decide) ?_
      refine J_lv [0] rfl ?_
      exact pX12_rule_b110_ok Z hK t0  _ hf
theorem dX12_ran_0 : decode cX12_ran 0 = .ok (.iload_n 1, 1) := by decide +kernel
theorem dX12_ran_1 : decode cX12_ran 1 = .ok (.iconst 0, 1) := by decide +kernel
theorem dX12_ran_2 : decode cX12_ran 2 = .ok (.iconst 5, 1) := by decide +kernel
theorem dX12_ran_3 : decode cX12_ran 3 = .ok (.invokestatic 109, 3) := by decide +kernel
theorem dX12_ran_6 : decode cX12_ran 6 = .ok (.ifCond .ne 9, 3) := by decide +kernel
theorem dX12_ran_9 : decode cX12_ran 9 = .ok (.aload_n 0, 1) := by decide +kernel
theorem dX12_ran_10 : decode cX12_ran 10 = .ok (.iconst 5, 1) := by decide +kernel
theorem dX12_ran_11 : decode cX12_ran 11 = .ok (.invokevirtual 143, 3) := by decide +kernel
theorem dX12_ran_14 : decode cX12_ran 14 = .ok (.ireturn, 1) := by decide +kernel
theorem dX12_ran_15 : decode cX12_ran 15 = .ok (.aload_n 0, 1) := by decide +kernel
theorem dX12_ran_16 : decode cX12_ran 16 = .ok (.getfield 285, 3) := by decide +kernel
theorem dX12_ran_19 : decode cX12_ran 19 = .ok (.ifCond .eq 18, 3) := by decide +kernel
theorem dX12_ran_22 : decode cX12_ran 22 = .ok (.iload_n 1, 1) := by decide +kernel
theorem dX12_ran_23 : decode cX12_ran 23 = .ok (.iconst 3, 1) := by decide +kernel
theorem dX12_ran_24 : decode cX12_ran 24 = .ok (.if_icmp .le 20, 3) := by decide +kernel
theorem dX12_ran_27 : decode cX12_ran 27 = .ok (.aload_n 0, 1) := by decide +kernel
theorem dX12_ran_28 : decode cX12_ran 28 = .ok (.getfield 57, 3) := by decide +kernel
theorem dX12_ran_31 : decode cX12_ran 31 = .ok (.getfield 288, 3) := by decide +kernel
theorem dX12_ran_34 : decode cX12_ran 34 = .ok (.ifCond .ne 10, 3) := by decide +kernel
theorem dX12_ran_37 : decode cX12_ran 37 = .ok (.aload_n 0, 1) := by decide +kernel
theorem dX12_ran_38 : decode cX12_ran 38 = .ok (.bipush 8, 2) := by decide +kernel
theorem dX12_ran_40 : decode cX12_ran 40 = .ok (.invokevirtual 143, 3) := by decide +kernel
theorem dX12_ran_43 : decode cX12_ran 43 = .ok (.ireturn, 1) := by decide +kernel
theorem dX12_ran_44 : decode cX12_ran 44 = .ok (.iload_n 1, 1) := by decide +kernel
theorem dX12_ran_45 : decode cX12_ran 45 = .ok (.tableswitch 95 0 4 #[35, 47, 59, 71, 83], 35) := by decide +kernel
theorem dX12_ran_80 : decode cX12_ran 80 = .ok (.aload_n 0, 1) := by decide +kernel
theorem dX12_ran_81 : decode cX12_ran 81 = .ok (.aload_n 0, 1) := by decide +kernel
theorem dX12_ran_82 : decode cX12_ran 82 = .ok (.getfield 57, 3) := by decide +kernel
theorem dX12_ran_85 : decode cX12_ran 85 = .ok (.getfield 294, 3) := by decide +kernel
theorem dX12_ran_88 : decode cX12_ran 88 = .ok (.invokevirtual 105, 3) := by decide +kernel
theorem dX12_ran_91 : decode cX12_ran 91 = .ok (.ireturn, 1) := by decide +kernel
theorem dX12_ran_92 : decode cX12_ran 92 = .ok (.aload_n 0, 1) := by decide +kernel
theorem dX12_ran_93 : decode cX12_ran 93 = .ok (.aload_n 0, 1) := by decide +kernel
theorem dX12_ran_94 : decode cX12_ran 94 = .ok (.getfield 57, 3) := by decide +kernel
theorem dX12_ran_97 : decode cX12_ran 97 = .ok (.getfield 297, 3) := by decide +kernel
theorem dX12_ran_100 : decode cX12_ran 100 = .ok (.invokevirtual 105, 3) := by decide +kernel
theorem dX12_ran_103 : decode cX12_ran 103 = .ok (.ireturn, 1) := by decide +kernel
theorem dX12_ran_104 : decode cX12_ran 104 = .ok (.aload_n 0, 1) := by decide +kernel
theorem dX12_ran_105 : decode cX12_ran 105 = .ok (.aload_n 0, 1) := by decide +kernel
theorem dX12_ran_106 : decode cX12_ran 106 = .ok (.getfield 57, 3) := by decide +kernel
theorem dX12_ran_109 : decode cX12_ran 109 = .ok (.getfield 291, 3) := by decide +kernel
theorem dX12_ran_112 : decode cX12_ran 112 = .ok (.invokevirtual 105, 3) := by decide +kernel
theorem dX12_ran_115 : decode cX12_ran 115 = .ok (.ireturn, 1) := by decide +kernel
theorem dX12_ran_116 : decode cX12_ran 116 = .ok (.aload_n 0, 1) := by decide +kernel
theorem dX12_ran_117 : decode cX12_ran 117 = .ok (.aload_n 0, 1) := by decide +kernel
theorem dX12_ran_118 : decode cX12_ran 118 = .ok (.getfield 57, 3) := by decide +kernel
theorem dX12_ran_121 : decode cX12_ran 121 = .ok (.getfield 288, 3) := by decide +kernel
theorem dX12_ran_124 : decode cX12_ran 124 = .ok (.invokevirtual 105, 3) := by decide +kernel
theorem dX12_ran_127 : decode cX12_ran 127 = .ok (.ireturn, 1) := by decide +kernel
theorem dX12_ran_128 : decode cX12_ran 128 = .ok (.aload_n 0, 1) := by decide +kernel
theorem dX12_ran_129 : decode cX12_ran 129 = .ok (.aload_n 0, 1) := by decide +kernel
theorem dX12_ran_130 : decode cX12_ran 130 = .ok (.getfield 57, 3) := by decide +kernel
theorem dX12_ran_133 : decode cX12_ran 133 = .ok (.getfield 300, 3) := by decide +kernel
theorem dX12_ran_136 : decode cX12_ran 136 = .ok (.invokevirtual 105, 3) := by decide +kernel
theorem dX12_ran_139 : decode cX12_ran 139 = .ok (.ireturn, 1) := by decide +kernel
theorem dX12_ran_140 : decode cX12_ran 140 = .ok (.aload_n 0, 1) := by decide +kernel
theorem dX12_ran_141 : decode cX12_ran 141 = .ok (.aload_n 0, 1) := by decide +kernel
theorem dX12_ran_142 : decode cX12_ran 142 = .ok (.getfield 57, 3) := by decide +kernel
theorem dX12_ran_145 : decode cX12_ran 145 = .ok (.getfield 303, 3) := by decide +kernel
theorem dX12_ran_148 : decode cX12_ran 148 = .ok (.invokevirtual 105, 3) := by decide +kernel
theorem dX12_ran_151 : decode cX12_ran 151 = .ok (.ireturn, 1) := by decide +kernel
def pX12_ran_b37 (g : MT) (this : Nat) (p1 : Int32) (h : CT) : Option ((Int32) × CT) := bd2 (pX12_refuse g h this 8) fun x3 h1 => (some (x3, h1))
set_option maxRecDepth 10000 in
set_option maxHeartbeats 4000000 in
theorem pX12_ran_b37_ok {X : Cx} {G : Gx} {dk : Nat} {g : MT} {r0 : Int32} {h0 : CT} {this : Nat} {p1 : Int32} (Z : Zx X G cX12_ran RX12 2 dk (some .int) (some (.int r0)) g h0) (hK : 1 ≤ dk) (t0 : gT g this = 11) (h : CT) (hf : pX12_ran_b37 g this p1 h = some (r0, h0)) : J X g h 37 [(0, va_rf (some this))] [] := by
  unfold pX12_ran_b37 at hf
  refine J_aload_n Z.1 0 dX12_ran_37 rfl rfl ?_
  refine J_bipush Z.1 (v := 8) (by decide) dX12_ran_38 ?_
  obtain ⟨x3, h1, q2, hf⟩ := bd2_i hf
  refine J_callV (ci := 10) (as := [.int 8]) (rest := []) (sy := [.int x3]) Z.1 dX12_ran_40 cw_X12_143 (pX12_refuse_ok G (dk - 1) (by omega) q2) rfl rfl t0 (zG Z) rfl (by decide) (zF Z (by omega)) (zO Z (by omega) (by decide)) (zM _) Z.2.1 Z.2.1 rfl rfl ?_
  cases hf
  exact J_iret Z.1 Z.2.2.2.2.2 dX12_ran_43
def pX12_ran_b44 (g : MT) (this : Nat) (p1 : Int32) (h : CT) : Option ((Int32) × CT) := if p1 = 0 then lt (hR h this 8) fun r2 => (nn r2 fun a2 => (tg g a2 9 (bd2 (pX12_answer g h this (hI h a2 0)) fun x6 h4 => (some (x6, h4))))) else (if p1 = 1 then lt (hR h this 8) fun r8 => (nn r8 fun a8 => (tg g a8 9 (bd2 (pX12_answer g h this (hI h a8 1)) fun x12 h10 => (some (x12, h10))))) else (if p1 = 2 then lt (hR h this 8) fun r14 => (nn r14 fun a14 => (tg g a14 9 (bd2 (pX12_answer g h this (hI h a14 2)) fun x18 h16 => (some (x18, h16))))) else (if p1 = 3 then lt (hR h this 8) fun r20 => (nn r20 fun a20 => (tg g a20 9 (bd2 (pX12_answer g h this (hI h a20 3)) fun x24 h22 => (some (x24, h22))))) else (if p1 = 4 then lt (hR h this 8) fun r26 => (nn r26 fun a26 => (tg g a26 9 (bd2 (pX12_answer g h this (hI h a26 4)) fun x30 h28 => (some (x30, h28))))) else (lt (hR h this 8) fun r31 => (nn r31 fun a31 => (tg g a31 9 (bd2 (pX12_answer g h this (hI h a31 5)) fun x35 h33 => (some (x35, h33))))))))))
set_option maxRecDepth 10000 in
set_option maxHeartbeats 4000000 in
theorem pX12_ran_b44_ok {X : Cx} {G : Gx} {dk : Nat} {g : MT} {r0 : Int32} {h0 : CT} {this : Nat} {p1 : Int32} (Z : Zx X G cX12_ran RX12 2 dk (some .int) (some (.int r0)) g h0) (hK : 1 ≤ dk) (t0 : gT g this = 11) (h : CT) (hf : pX12_ran_b44 g this p1 h = some (r0, h0)) : J X g h 44 [(0, va_rf (some this)), (1, .int p1)] [] := by
  unfold pX12_ran_b44 at hf
  refine J_iload_n Z.1 1 dX12_ran_44 rfl rfl ?_
  by_cases c1 : p1 = 0
  · rw [if_pos c1] at hf
    refine J_tabIn (off := 35) Z.1 80 dX12_ran_45 (by rw [c1]; decide) (by rw [c1]; decide) (by rw [c1]; decide) (by decide) ?_
    refine J_aload_n Z.1 0 dX12_ran_80 rfl rfl ?_
    refine J_aload_n Z.1 0 dX12_ran_81 rfl rfl ?_
    refine J_get (v := va_rf (hR h this 8)) Z.1 dX12_ran_82 fl_X12_57 t0 rfl ?_
    refine J_tr (fun r2 er2 => ?_)
    replace hf := lt_i hf r2 er2
    replace hf := nn_i hf
    obtain ⟨a2, rfl, hf⟩ := hf
    obtain ⟨t3, hf⟩ := tg_i hf
    refine J_get (v := .int (hI h a2 0)) Z.1 dX12_ran_85 fl_X12_294 t3 rfl ?_
    obtain ⟨x6, h4, q5, hf⟩ := bd2_i hf
    refine J_callV (ci := 10) (as := [.int (hI h a2 0)]) (rest := []) (sy := [.int x6]) Z.1 dX12_ran_88 cw_X12_105 (pX12_answer_ok G (dk - 1) (by omega) q5) rfl rfl t0 (zG Z) rfl (by decide) (zF Z (by omega)) (zO Z (by omega) (by decide)) (zM _) Z.2.1 Z.2.1 rfl rfl ?_
    cases hf
    exact J_iret Z.1 Z.2.2.2.2.2 dX12_ran_91
  rw [if_neg c1] at hf
  by_cases c7 : p1 = 1
  · rw [if_pos c7] at hf
    refine J_tabIn (off := 47) Z.1 92 dX12_ran_45 (by rw [c7]; decide) (by rw [c7]; decide) (by rw [c7]; decide) (by decide) ?_
    refine J_aload_n Z.1 0 dX12_ran_92 rfl rfl ?_
    refine J_aload_n Z.1 0 dX12_ran_93 rfl rfl ?_
    refine J_get (v := va_rf (hR h this 8)) Z.1 dX12_ran_94 fl_X12_57 t0 rfl ?_
    refine J_tr (fun r8 er8 => ?_)
    replace hf := lt_i hf r8 er8
    replace hf := nn_i hf
    obtain ⟨a8, rfl, hf⟩ := hf
    obtain ⟨t9, hf⟩ := tg_i hf
    refine J_get (v := .int (hI h a8 1)) Z.1 dX12_ran_97 fl_X12_297 t9 rfl ?_
    obtain ⟨x12, h10, q11, hf⟩ := bd2_i hf
    refine J_callV (ci := 10) (as := [.int (hI h a8 1)]) (rest := []) (sy := [.int x12]) Z.1 dX12_ran_100 cw_X12_105 (pX12_answer_ok G (dk - 1) (by omega) q11) rfl rfl t0 (zG Z) rfl (by decide) (zF Z (by omega)) (zO Z (by omega) (by decide)) (zM _) Z.2.1 Z.2.1 rfl rfl ?_
    cases hf
    exact J_iret Z.1 Z.2.2.2.2.2 dX12_ran_103
  rw [if_neg c7] at hf
  by_cases c13 : p1 = 2
  · rw [if_pos c13] at hf
    refine J_tabIn (off := 59) Z.1 104 dX12_ran_45 (by rw [c13]; decide) (by rw [c13]; decide) (by rw [c13]; decide) (by decide) ?_
    refine J_aload_n Z.1 0 dX12_ran_104 rfl rfl ?_
    refine J_aload_n Z.1 0 dX12_ran_105 rfl rfl ?_
    refine J_get (v := va_rf (hR h this 8)) Z.1 dX12_ran_106 fl_X12_57 t0 rfl ?_
    refine J_tr (fun r14 er14 => ?_)
    replace hf := lt_i hf r14 er14
    replace hf := nn_i hf
    obtain ⟨a14, rfl, hf⟩ := hf
    obtain ⟨t15, hf⟩ := tg_i hf
    refine J_get (v := .int (hI h a14 2)) Z.1 dX12_ran_109 fl_X12_291 t15 rfl ?_
    obtain ⟨x18, h16, q17, hf⟩ := bd2_i hf
    refine J_callV (ci := 10) (as := [.int (hI h a14 2)]) (rest := []) (sy := [.int x18]) Z.1 dX12_ran_112 cw_X12_105 (pX12_answer_ok G (dk - 1) (by omega) q17) rfl rfl t0 (zG Z) rfl (by decide) (zF Z (by omega)) (zO Z (by omega) (by decide)) (zM _) Z.2.1 Z.2.1 rfl rfl ?_
    cases hf
    exact J_iret Z.1 Z.2.2.2.2.2 dX12_ran_115
  rw [if_neg c13] at hf
  by_cases c19 : p1 = 3
  · rw [if_pos c19] at hf
    refine J_tabIn (off := 71) Z.1 116 dX12_ran_45 (by rw [c19]; decide) (by rw [c19]; decide) (by rw [c19]; decide) (by decide) ?_
    refine J_aload_n Z.1 0 dX12_ran_116 rfl rfl ?_
    refine J_aload_n Z.1 0 dX12_ran_117 rfl rfl ?_
    refine J_get (v := va_rf (hR h this 8)) Z.1 dX12_ran_118 fl_X12_57 t0 rfl ?_
    refine J_tr (fun r20 er20 => ?_)
    replace hf := lt_i hf r20 er20
    replace hf := nn_i hf
    obtain ⟨a20, rfl, hf⟩ := hf
    obtain ⟨t21, hf⟩ := tg_i hf
    refine J_get (v := .int (hI h a20 3)) Z.1 dX12_ran_121 fl_X12_288 t21 rfl ?_
    obtain ⟨x24, h22, q23, hf⟩ := bd2_i hf
    refine J_callV (ci := 10) (as := [.int (hI h a20 3)]) (rest := []) (sy := [.int x24]) Z.1 dX12_ran_124 cw_X12_105 (pX12_answer_ok G (dk - 1) (by omega) q23) rfl rfl t0 (zG Z) rfl (by decide) (zF Z (by omega)) (zO Z (by omega) (by decide)) (zM _) Z.2.1 Z.2.1 rfl rfl ?_
    cases hf
    exact J_iret Z.1 Z.2.2.2.2.2 dX12_ran_127
  rw [if_neg c19] at hf
  by_cases c25 : p1 = 4
  · rw [if_pos c25] at hf
    refine J_tabIn (off := 83) Z.1 128 dX12_ran_45 (by rw [c25]; decide) (by rw [c25]; decide) (by rw [c25]; decide) (by decide) ?_
    refine J_aload_n Z.1 0 dX12_ran_128 rfl rfl ?_
    refine J_aload_n Z.1 0 dX12_ran_129 rfl rfl ?_
    refine J_get (v := va_rf (hR h this 8)) Z.1 dX12_ran_130 fl_X12_57 t0 rfl ?_
    refine J_tr (fun r26 er26 => ?_)
    replace hf := lt_i hf r26 er26
    replace hf := nn_i hf
    obtain ⟨a26, rfl, hf⟩ := hf
    obtain ⟨t27, hf⟩ := tg_i hf
    refine J_get (v := .int (hI h a26 4)) Z.1 dX12_ran_133 fl_X12_300 t27 rfl ?_
    obtain ⟨x30, h28, q29, hf⟩ := bd2_i hf
    refine J_callV (ci := 10) (as := [.int (hI h a26 4)]) (rest := []) (sy := [.int x30]) Z.1 dX12_ran_136 cw_X12_105 (pX12_answer_ok G (dk - 1) (by omega) q29) rfl rfl t0 (zG Z) rfl (by decide) (zF Z (by omega)) (zO Z (by omega) (by decide)) (zM _) Z.2.1 Z.2.1 rfl rfl ?_
    cases hf
    exact J_iret Z.1 Z.2.2.2.2.2 dX12_ran_139
  rw [if_neg c25] at hf
  have hout : p1.toInt < 0 ∨ 4 < p1.toInt := by
    have c1q := lv_neT c1 (a := 0) (by decide)
    have c7q := lv_neT c7 (a := 1) (by decide)
    have c13q := lv_neT c13 (a := 2) (by decide)
    have c19q := lv_neT c19 (a := 3) (by decide)
    have c25q := lv_neT c25 (a := 4) (by decide)
    omega
  refine J_tabOut Z.1 140 dX12_ran_45 hout (by decide) ?_
  refine J_aload_n Z.1 0 dX12_ran_140 rfl rfl ?_
  refine J_aload_n Z.1 0 dX12_ran_141 rfl rfl ?_
  refine J_get (v := va_rf (hR h this 8)) Z.1 dX12_ran_142 fl_X12_57 t0 rfl ?_
  refine J_tr (fun r31 er31 => ?_)
  replace hf := lt_i hf r31 er31
  replace hf := nn_i hf
  obtain ⟨a31, rfl, hf⟩ := hf
  obtain ⟨t32, hf⟩ := tg_i hf
  refine J_get (v := .int (hI h a31 5)) Z.1 dX12_ran_145 fl_X12_303 t32 rfl ?_
  obtain ⟨x35, h33, q34, hf⟩ := bd2_i hf
  refine J_callV (ci := 10) (as := [.int (hI h a31 5)]) (rest := []) (sy := [.int x35]) Z.1 dX12_ran_148 cw_X12_105 (pX12_answer_ok G (dk - 1) (by omega) q34) rfl rfl t0 (zG Z) rfl (by decide) (zF Z (by omega)) (zO Z (by omega) (by decide)) (zM _) Z.2.1 Z.2.1 rfl rfl ?_
  cases hf
  exact J_iret Z.1 Z.2.2.2.2.2 dX12_ran_151
def pX12_ran (g : MT) (h : CT) (this : Nat) (p1 : Int32) : Option ((Int32) × CT) := tg g this 11 (if (pX12_within p1 0 5) = 0 then bd2 (pX12_refuse g h this 5) fun x9 h7 => (some (x9, h7)) else if (hI h this 9) = 0 then pX12_ran_b37 g this p1  h else if p1 ≤ 3 then pX12_ran_b44 g this p1  h else lt (hR h this 8) fun r4 => (nn r4 fun a4 => (tg g a4 9 (if (hI h a4 3) = 0 then pX12_ran_b37 g this p1  h else pX12_ran_b44 g this p1  h))))
set_option maxRecDepth 10000 in
set_option maxHeartbeats 4000000 in
theorem pX12_ran_ok (G : Gx) (dk : Nat) (hK : 1 ≤ dk) {g : MT} {h h0 : CT} {this : Nat} {p1 : Int32} {r0 : Int32} (hf : pX12_ran g h this p1 = some (r0, h0)) : Ctr G dk yX12_ran cX12_ran 2 (some .int) [va_rf (some this), .int p1] g h (some (.int r0)) g h0 := by
  refine Ctr.ofZ (lv := [(0, va_rf (some this)), (1, .int p1)]) (by decide +kernel) (by simp [cat_i, cat_l, cat_d, cat_rf]) rfl fun X Z => ?_
  unfold pX12_ran at hf
  obtain ⟨t0, hf⟩ := tg_i hf
  refine J_iload_n Z.1 1 dX12_ran_0 rfl rfl ?_
  refine J_iconst Z.1 (v := 0) (by decide) dX12_ran_1 ?_
  refine J_iconst Z.1 (v := 5) (by decide) dX12_ran_2 ?_
  refine J_callS (as := [.int p1, .int 0, .int 5]) (rest := []) (sy := [.int (pX12_within p1 0 5)]) Z.1 dX12_ran_3 cw_X12_109 (pX12_within_ok G (dk - 1) (by omega) g h p1 0 5) (zG Z) rfl (by decide) (zF Z (by omega)) (zO Z (by omega) (by decide)) (zM _) Z.2.1 Z.2.1 rfl rfl ?_
  refine J_if_ne Z.1 15 dX12_ran_6 (by decide) (fun c1 => ?_) (fun c1 => ?_)
  · rw [if_neg c1] at hf
    refine J_aload_n Z.1 0 dX12_ran_15 rfl rfl ?_
    refine J_get (v := .int (hI h this 9)) Z.1 dX12_ran_16 fl_X12_285 t0 rfl ?_
    refine J_if_eq Z.1 37 dX12_ran_19 (by decide) (fun c2 => ?_) (fun c2 => ?_)
    · rw [if_pos c2] at hf
      refine J_lv [0] rfl ?_
      exact pX12_ran_b37_ok Z hK t0  _ hf
    · rw [if_neg c2] at hf
      refine J_iload_n Z.1 1 dX12_ran_22 rfl rfl ?_
      refine J_iconst Z.1 (v := 3) (by decide) dX12_ran_23 ?_
      refine J_icmp_le Z.1 44 dX12_ran_24 (by decide) (fun c3 => ?_) (fun c3 => ?_)
      · rw [if_pos c3] at hf
        exact pX12_ran_b44_ok Z hK t0  _ hf
      · rw [if_neg c3] at hf
        refine J_aload_n Z.1 0 dX12_ran_27 rfl rfl ?_
        refine J_get (v := va_rf (hR h this 8)) Z.1 dX12_ran_28 fl_X12_57 t0 rfl ?_
        refine J_tr (fun r4 er4 => ?_)
        replace hf := lt_i hf r4 er4
        replace hf := nn_i hf
        obtain ⟨a4, rfl, hf⟩ := hf
        obtain ⟨t5, hf⟩ := tg_i hf
        refine J_get (v := .int (hI h a4 3)) Z.1 dX12_ran_31 fl_X12_288 t5 rfl ?_
        refine J_if_ne Z.1 44 dX12_ran_34 (by decide) (fun c6 => ?_) (fun c6 => ?_)
        · rw [if_neg c6] at hf
          exact pX12_ran_b44_ok Z hK t0  _ hf
        · rw [if_pos c6] at hf
          refine J_lv [0] rfl ?_
          exact pX12_ran_b37_ok Z hK t0  _ hf
  · rw [if_pos c1] at hf
    refine J_aload_n Z.1 0 dX12_ran_9 rfl rfl ?_
    refine J_iconst Z.1 (v := 5) (by decide) dX12_ran_10 ?_
    obtain ⟨x9, h7, q8, hf⟩ := bd2_i hf
    refine J_callV (ci := 10) (as := [.int 5]) (rest := []) (sy := [.int x9]) Z.1 dX12_ran_11 cw_X12_143 (pX12_refuse_ok G (dk - 1) (by omega) q8) rfl rfl t0 (zG Z) rfl (by decide) (zF Z (by omega)) (zO Z (by omega) (by decide)) (zM _) Z.2.1 Z.2.1 rfl rfl ?_
    cases hf
    exact J_iret Z.1 Z.2.2.2.2.2 dX12_ran_14
theorem dX12_isInstruction_0 : decode cX12_isInstruction 0 = .ok (.iload_n 1, 1) := by decide +kernel
theorem dX12_isInstruction_1 : decode cX12_isInstruction 1 = .ok (.iconst 0, 1) := by decide +kernel
theorem dX12_isInstruction_2 : decode cX12_isInstruction 2 = .ok (.aload_n 0, 1) := by decide +kernel
theorem dX12_isInstruction_3 : decode cX12_isInstruction 3 = .ok (.getfield 30, 3) := by decide +kernel
theorem dX12_isInstruction_6 : decode cX12_isInstruction 6 = .ok (.getfield 178, 3) := by decide +kernel
theorem dX12_isInstruction_9 : decode cX12_isInstruction 9 = .ok (.getfield 184, 3) := by decide +kernel
theorem dX12_isInstruction_12 : decode cX12_isInstruction 12 = .ok (.bipush 30, 2) := by decide +kernel
theorem dX12_isInstruction_14 : decode cX12_isInstruction 14 = .ok (.invokestatic 306, 3) := by decide +kernel
theorem dX12_isInstruction_17 : decode cX12_isInstruction 17 = .ok (.iconst 1, 1) := by decide +kernel
theorem dX12_isInstruction_18 : decode cX12_isInstruction 18 = .ok (.isub, 1) := by decide +kernel
theorem dX12_isInstruction_19 : decode cX12_isInstruction 19 = .ok (.invokestatic 109, 3) := by decide +kernel
theorem dX12_isInstruction_22 : decode cX12_isInstruction 22 = .ok (.ireturn, 1) := by decide +kernel
def pX12_isInstruction (g : MT) (h : CT) (this : Nat) (p1 : Int32) : Option Int32 := tg g this 11 (lt (hR h this 4) fun r1 => (nn r1 fun a1 => (tg g a1 3 (lt (hR h a1 8) fun r3 => (nn r3 fun a3 => (tg g a3 6 (some (pX12_within p1 0 ((pJ9_min_7cf53 (hI h a3 1) 30) - 1)))))))))
set_option maxRecDepth 10000 in
set_option maxHeartbeats 4000000 in
theorem pX12_isInstruction_ok (G : Gx) (dk : Nat) (hK : 1 ≤ dk) {g : MT} {h : CT} {this : Nat} {p1 : Int32} {r0 : Int32} (hf : pX12_isInstruction g h this p1 = some r0) : Ctr G dk yX12_isInstruction cX12_isInstruction 2 (some .boolean) [va_rf (some this), .int p1] g h (some (.int r0)) g h := by
  refine Ctr.ofZ (lv := [(0, va_rf (some this)), (1, .int p1)]) (by decide +kernel) (by simp [cat_i, cat_l, cat_d, cat_rf]) rfl fun X Z => ?_
  unfold pX12_isInstruction at hf
  obtain ⟨t0, hf⟩ := tg_i hf
  refine J_iload_n Z.1 1 dX12_isInstruction_0 rfl rfl ?_
  refine J_iconst Z.1 (v := 0) (by decide) dX12_isInstruction_1 ?_
  refine J_aload_n Z.1 0 dX12_isInstruction_2 rfl rfl ?_
  refine J_get (v := va_rf (hR h this 4)) Z.1 dX12_isInstruction_3 fl_X12_30 t0 rfl ?_
  refine J_tr (fun r1 er1 => ?_)
  replace hf := lt_i hf r1 er1
  replace hf := nn_i hf
  obtain ⟨a1, rfl, hf⟩ := hf
  obtain ⟨t2, hf⟩ := tg_i hf
  refine J_get (v := va_rf (hR h a1 8)) Z.1 dX12_isInstruction_6 fl_X12_178 t2 rfl ?_
  refine J_tr (fun r3 er3 => ?_)
  replace hf := lt_i hf r3 er3
  replace hf := nn_i hf
  obtain ⟨a3, rfl, hf⟩ := hf
  obtain ⟨t4, hf⟩ := tg_i hf
  refine J_get (v := .int (hI h a3 1)) Z.1 dX12_isInstruction_9 fl_X12_184 t4 rfl ?_
  refine J_bipush Z.1 (v := 30) (by decide) dX12_isInstruction_12 ?_
  refine J_callS (as := [.int (hI h a3 1), .int 30]) (rest := [.int 0, .int p1]) (sy := [.int (pJ9_min_7cf53 (hI h a3 1) 30), .int 0, .int p1]) Z.1 dX12_isInstruction_14 cw_X12_306 (pJ9_min_7cf53_ok G (dk - 1) (by omega) g h (hI h a3 1) 30) (zG Z) rfl (by simp [cat_i, cat_l, cat_d, cat_rf]) (zF Z (by omega)) (zO Z (by omega) (by decide)) (zM _) Z.2.1 Z.2.1 rfl rfl ?_
  refine J_iconst Z.1 (v := 1) (by decide) dX12_isInstruction_17 ?_
  refine J_isub Z.1 dX12_isInstruction_18 ?_
  refine J_callS (as := [.int p1, .int 0, .int ((pJ9_min_7cf53 (hI h a3 1) 30) - 1)]) (rest := []) (sy := [.int (pX12_within p1 0 ((pJ9_min_7cf53 (hI h a3 1) 30) - 1))]) Z.1 dX12_isInstruction_19 cw_X12_109 (pX12_within_ok G (dk - 1) (by omega) g h p1 0 ((pJ9_min_7cf53 (hI h a3 1) 30) - 1)) (zG Z) rfl (by decide) (zF Z (by omega)) (zO Z (by omega) (by decide)) (zM _) Z.2.1 Z.2.1 rfl rfl ?_
  cases hf
  exact J_zret Z.1 Z.2.2.2.2.2 (z_n (pX12_within_z p1 0 ((pJ9_min_7cf53 (hI h a3 1) 30) - 1))) dX12_isInstruction_22
theorem dX12_time_0 : decode cX12_time 0 = .ok (.aload_n 0, 1) := by decide +kernel
theorem dX12_time_1 : decode cX12_time 1 = .ok (.iload_n 1, 1) := by decide +kernel
theorem dX12_time_2 : decode cX12_time 2 = .ok (.invokevirtual 311, 3) := by decide +kernel
theorem dX12_time_5 : decode cX12_time 5 = .ok (.ifCond .ne 9, 3) := by decide +kernel
theorem dX12_time_8 : decode cX12_time 8 = .ok (.aload_n 0, 1) := by decide +kernel
theorem dX12_time_9 : decode cX12_time 9 = .ok (.iconst 2, 1) := by decide +kernel
theorem dX12_time_10 : decode cX12_time 10 = .ok (.invokevirtual 143, 3) := by decide +kernel
theorem dX12_time_13 : decode cX12_time 13 = .ok (.ireturn, 1) := by decide +kernel
theorem dX12_time_14 : decode cX12_time 14 = .ok (.iload_n 2, 1) := by decide +kernel
theorem dX12_time_15 : decode cX12_time 15 = .ok (.iconst 0, 1) := by decide +kernel
theorem dX12_time_16 : decode cX12_time 16 = .ok (.iconst 1, 1) := by decide +kernel
theorem dX12_time_17 : decode cX12_time 17 = .ok (.invokestatic 109, 3) := by decide +kernel
theorem dX12_time_20 : decode cX12_time 20 = .ok (.ifCond .ne 9, 3) := by decide +kernel
theorem dX12_time_23 : decode cX12_time 23 = .ok (.aload_n 0, 1) := by decide +kernel
theorem dX12_time_24 : decode cX12_time 24 = .ok (.iconst 5, 1) := by decide +kernel
theorem dX12_time_25 : decode cX12_time 25 = .ok (.invokevirtual 143, 3) := by decide +kernel
theorem dX12_time_28 : decode cX12_time 28 = .ok (.ireturn, 1) := by decide +kernel
theorem dX12_time_29 : decode cX12_time 29 = .ok (.iload_n 2, 1) := by decide +kernel
theorem dX12_time_30 : decode cX12_time 30 = .ok (.ifCond .ne 15, 3) := by decide +kernel
theorem dX12_time_33 : decode cX12_time 33 = .ok (.aload_n 0, 1) := by decide +kernel
theorem dX12_time_34 : decode cX12_time 34 = .ok (.getfield 57, 3) := by decide +kernel
theorem dX12_time_37 : decode cX12_time 37 = .ok (.getfield 314, 3) := by decide +kernel
theorem dX12_time_40 : decode cX12_time 40 = .ok (.iload_n 1, 1) := by decide +kernel
theorem dX12_time_41 : decode cX12_time 41 = .ok (.iaload, 1) := by decide +kernel
theorem dX12_time_42 : decode cX12_time 42 = .ok (.goto 12, 3) := by decide +kernel
theorem dX12_time_45 : decode cX12_time 45 = .ok (.aload_n 0, 1) := by decide +kernel
theorem dX12_time_46 : decode cX12_time 46 = .ok (.getfield 57, 3) := by decide +kernel
theorem dX12_time_49 : decode cX12_time 49 = .ok (.getfield 318, 3) := by decide +kernel
theorem dX12_time_52 : decode cX12_time 52 = .ok (.iload_n 1, 1) := by decide +kernel
theorem dX12_time_53 : decode cX12_time 53 = .ok (.iaload, 1) := by decide +kernel
theorem dX12_time_54 : decode cX12_time 54 = .ok (.istore_n 3, 1) := by decide +kernel
theorem dX12_time_55 : decode cX12_time 55 = .ok (.aload_n 0, 1) := by decide +kernel
theorem dX12_time_56 : decode cX12_time 56 = .ok (.getfield 181, 3) := by decide +kernel
theorem dX12_time_59 : decode cX12_time 59 = .ok (.ifCond .eq 8, 3) := by decide +kernel
theorem dX12_time_62 : decode cX12_time 62 = .ok (.iload_n 3, 1) := by decide +kernel
theorem dX12_time_63 : decode cX12_time 63 = .ok (.iconst (-1), 1) := by decide +kernel
theorem dX12_time_64 : decode cX12_time 64 = .ok (.if_icmp .ne 12, 3) := by decide +kernel
theorem dX12_time_67 : decode cX12_time 67 = .ok (.aload_n 0, 1) := by decide +kernel
theorem dX12_time_68 : decode cX12_time 68 = .ok (.bipush 8, 2) := by decide +kernel
theorem dX12_time_70 : decode cX12_time 70 = .ok (.invokevirtual 143, 3) := by decide +kernel
theorem dX12_time_73 : decode cX12_time 73 = .ok (.goto 8, 3) := by decide +kernel
theorem dX12_time_76 : decode cX12_time 76 = .ok (.aload_n 0, 1) := by decide +kernel
theorem dX12_time_77 : decode cX12_time 77 = .ok (.iload_n 3, 1) := by decide +kernel
theorem dX12_time_78 : decode cX12_time 78 = .ok (.invokevirtual 105, 3) := by decide +kernel
theorem dX12_time_81 : decode cX12_time 81 = .ok (.ireturn, 1) := by decide +kernel
def pX12_time_b67 (g : MT) (this : Nat) (p1 : Int32) (p2 : Int32) (h : CT) : Option ((Int32) × CT) := bd2 (pX12_refuse g h this 8) fun x3 h1 => (some (x3, h1))
set_option maxRecDepth 10000 in
set_option maxHeartbeats 4000000 in
theorem pX12_time_b67_ok {X : Cx} {G : Gx} {dk : Nat} {g : MT} {r0 : Int32} {h0 : CT} {this : Nat} {p1 : Int32} {p2 : Int32} (Z : Zx X G cX12_time RX12 4 dk (some .int) (some (.int r0)) g h0) (hK : 2 ≤ dk) (t0 : gT g this = 11) (h : CT) (hf : pX12_time_b67 g this p1 p2 h = some (r0, h0)) : J X g h 67 [(0, va_rf (some this))] [] := by
  unfold pX12_time_b67 at hf
  refine J_aload_n Z.1 0 dX12_time_67 rfl rfl ?_
  refine J_bipush Z.1 (v := 8) (by decide) dX12_time_68 ?_
  obtain ⟨x3, h1, q2, hf⟩ := bd2_i hf
  refine J_callV (ci := 10) (as := [.int 8]) (rest := []) (sy := [.int x3]) Z.1 dX12_time_70 cw_X12_143 (pX12_refuse_ok G (dk - 1) (by omega) q2) rfl rfl t0 (zG Z) rfl (by decide) (zF Z (by omega)) (zO Z (by omega) (by decide)) (zM _) Z.2.1 Z.2.1 rfl rfl ?_
  refine J_goto Z.1 81 dX12_time_73 (by decide) ?_
  cases hf
  exact J_iret Z.1 Z.2.2.2.2.2 dX12_time_81
def pX12_time_b54 (g : MT) (this : Nat) (p1 : Int32) (p2 : Int32) (s0 : Int32) (h : CT) : Option ((Int32) × CT) := if (hI h this 10) = 0 then pX12_time_b67 g this p1 p2  h else if s0 = (-1) then pX12_time_b67 g this p1 p2  h else bd2 (pX12_answer g h this s0) fun x5 h3 => (some (x5, h3))
set_option maxRecDepth 10000 in
set_option maxHeartbeats 4000000 in
theorem pX12_time_b54_ok {X : Cx} {G : Gx} {dk : Nat} {g : MT} {r0 : Int32} {h0 : CT} {this : Nat} {p1 : Int32} {p2 : Int32} (Z : Zx X G cX12_time RX12 4 dk (some .int) (some (.int r0)) g h0) (hK : 2 ≤ dk) (t0 : gT g this = 11) (s0 : Int32) (h : CT) (hf : pX12_time_b54 g this p1 p2 s0 h = some (r0, h0)) : J X g h 54 [(0, va_rf (some this))] [.int s0] := by
  unfold pX12_time_b54 at hf
  refine J_istore_n Z.1 (lv2 := [(3, .int s0), (0, va_rf (some this))]) dX12_time_54 rfl (zL Z (by decide)) rfl ?_
  refine J_aload_n Z.1 1 dX12_time_55 rfl rfl ?_
  refine J_get (v := .int (hI h this 10)) Z.1 dX12_time_56 fl_X12_181 t0 rfl ?_
  refine J_if_eq Z.1 67 dX12_time_59 (by decide) (fun c1 => ?_) (fun c1 => ?_)
  · rw [if_pos c1] at hf
    refine J_lv [1] rfl ?_
    exact pX12_time_b67_ok Z hK t0  _ hf
  · rw [if_neg c1] at hf
    refine J_iload_n Z.1 0 dX12_time_62 rfl rfl ?_
    refine J_iconst Z.1 (v := (-1)) (by decide) dX12_time_63 ?_
    refine J_icmp_ne Z.1 76 dX12_time_64 (by decide) (fun c2 => ?_) (fun c2 => ?_)
    · rw [if_neg c2] at hf
      refine J_aload_n Z.1 1 dX12_time_76 rfl rfl ?_
      refine J_iload_n Z.1 0 dX12_time_77 rfl rfl ?_
      obtain ⟨x5, h3, q4, hf⟩ := bd2_i hf
      refine J_callV (ci := 10) (as := [.int s0]) (rest := []) (sy := [.int x5]) Z.1 dX12_time_78 cw_X12_105 (pX12_answer_ok G (dk - 1) (by omega) q4) rfl rfl t0 (zG Z) rfl (by decide) (zF Z (by omega)) (zO Z (by omega) (by decide)) (zM _) Z.2.1 Z.2.1 rfl rfl ?_
      cases hf
      exact J_iret Z.1 Z.2.2.2.2.2 dX12_time_81
    · rw [if_pos c2] at hf
      refine J_lv [1] rfl ?_
      exact pX12_time_b67_ok Z hK t0  _ hf
def pX12_time (g : MT) (h : CT) (this : Nat) (p1 : Int32) (p2 : Int32) : Option ((Int32) × CT) := tg g this 11 (bd (pX12_isInstruction g h this p1) fun x1 => (if x1 = 0 then bd2 (pX12_refuse g h this 2) fun x21 h19 => (some (x21, h19)) else if (pX12_within p2 0 1) = 0 then bd2 (pX12_refuse g h this 5) fun x18 h16 => (some (x18, h16)) else if p2 = 0 then lt (hR h this 8) fun r11 => (nn r11 fun a11 => (tg g a11 9 (lt (hR h a11 6) fun r13 => (nn r13 fun a13 => (tg g a13 20 (ix (gL g a13) p1 (pX12_time_b54 g this p1 p2  (hI h a13 (Int32.toNatClampNeg p1)) h))))))) else lt (hR h this 8) fun r6 => (nn r6 fun a6 => (tg g a6 9 (lt (hR h a6 7) fun r8 => (nn r8 fun a8 => (tg g a8 20 (ix (gL g a8) p1 (pX12_time_b54 g this p1 p2  (hI h a8 (Int32.toNatClampNeg p1)) h)))))))))
set_option maxRecDepth 10000 in
set_option maxHeartbeats 4000000 in
theorem pX12_time_ok (G : Gx) (dk : Nat) (hK : 2 ≤ dk) {g : MT} {h h0 : CT} {this : Nat} {p1 : Int32} {p2 : Int32} {r0 : Int32} (hf : pX12_time g h this p1 p2 = some (r0, h0)) : Ctr G dk yX12_time cX12_time 4 (some .int) [va_rf (some this), .int p1, .int p2] g h (some (.int r0)) g h0 := by
  refine Ctr.ofZ (lv := [(0, va_rf (some this)), (1, .int p1), (2, .int p2)]) (by decide +kernel) (by simp [cat_i, cat_l, cat_d, cat_rf]) rfl fun X Z => ?_
  unfold pX12_time at hf
  obtain ⟨t0, hf⟩ := tg_i hf
  refine J_aload_n Z.1 0 dX12_time_0 rfl rfl ?_
  refine J_iload_n Z.1 1 dX12_time_1 rfl rfl ?_
  obtain ⟨x1, q2, hf⟩ := bd_i hf
  refine J_callV (ci := 10) (as := [.int p1]) (rest := []) (sy := [.int x1]) Z.1 dX12_time_2 cw_X12_311 (pX12_isInstruction_ok G (dk - 1) (by omega) q2) rfl rfl t0 (zG Z) rfl (by decide) (zF Z (by omega)) (zO Z (by omega) (by decide)) (zM _) Z.2.1 Z.2.1 rfl rfl ?_
  refine J_if_ne Z.1 14 dX12_time_5 (by decide) (fun c3 => ?_) (fun c3 => ?_)
  · rw [if_neg c3] at hf
    refine J_iload_n Z.1 2 dX12_time_14 rfl rfl ?_
    refine J_iconst Z.1 (v := 0) (by decide) dX12_time_15 ?_
    refine J_iconst Z.1 (v := 1) (by decide) dX12_time_16 ?_
    refine J_callS (as := [.int p2, .int 0, .int 1]) (rest := []) (sy := [.int (pX12_within p2 0 1)]) Z.1 dX12_time_17 cw_X12_109 (pX12_within_ok G (dk - 1) (by omega) g h p2 0 1) (zG Z) rfl (by decide) (zF Z (by omega)) (zO Z (by omega) (by decide)) (zM _) Z.2.1 Z.2.1 rfl rfl ?_
    refine J_if_ne Z.1 29 dX12_time_20 (by decide) (fun c4 => ?_) (fun c4 => ?_)
    · rw [if_neg c4] at hf
      refine J_iload_n Z.1 2 dX12_time_29 rfl rfl ?_
      refine J_if_ne Z.1 45 dX12_time_30 (by decide) (fun c5 => ?_) (fun c5 => ?_)
      · rw [if_neg c5] at hf
        refine J_aload_n Z.1 0 dX12_time_45 rfl rfl ?_
        refine J_get (v := va_rf (hR h this 8)) Z.1 dX12_time_46 fl_X12_57 t0 rfl ?_
        refine J_tr (fun r6 er6 => ?_)
        replace hf := lt_i hf r6 er6
        replace hf := nn_i hf
        obtain ⟨a6, rfl, hf⟩ := hf
        obtain ⟨t7, hf⟩ := tg_i hf
        refine J_get (v := va_rf (hR h a6 7)) Z.1 dX12_time_49 fl_X12_318 t7 rfl ?_
        refine J_tr (fun r8 er8 => ?_)
        replace hf := lt_i hf r8 er8
        refine J_iload_n Z.1 1 dX12_time_52 rfl rfl ?_
        replace hf := nn_i hf
        obtain ⟨a8, rfl, hf⟩ := hf
        obtain ⟨t9, hf⟩ := tg_i hf
        obtain ⟨i10, hf⟩ := ix_i hf
        refine J_iaload Z.1 dX12_time_53 t9 i10 ?_
        refine J_lv [0] rfl ?_
        exact pX12_time_b54_ok Z hK t0  _ _ hf
      · rw [if_pos c5] at hf
        refine J_aload_n Z.1 0 dX12_time_33 rfl rfl ?_
        refine J_get (v := va_rf (hR h this 8)) Z.1 dX12_time_34 fl_X12_57 t0 rfl ?_
        refine J_tr (fun r11 er11 => ?_)
        replace hf := lt_i hf r11 er11
        replace hf := nn_i hf
        obtain ⟨a11, rfl, hf⟩ := hf
        obtain ⟨t12, hf⟩ := tg_i hf
        refine J_get (v := va_rf (hR h a11 6)) Z.1 dX12_time_37 fl_X12_314 t12 rfl ?_
        refine J_tr (fun r13 er13 => ?_)
        replace hf := lt_i hf r13 er13
        refine J_iload_n Z.1 1 dX12_time_40 rfl rfl ?_
        replace hf := nn_i hf
        obtain ⟨a13, rfl, hf⟩ := hf
        obtain ⟨t14, hf⟩ := tg_i hf
        obtain ⟨i15, hf⟩ := ix_i hf
        refine J_iaload Z.1 dX12_time_41 t14 i15 ?_
        refine J_goto Z.1 54 dX12_time_42 (by decide) ?_
        refine J_lv [0] rfl ?_
        exact pX12_time_b54_ok Z hK t0  _ _ hf
    · rw [if_pos c4] at hf
      refine J_aload_n Z.1 0 dX12_time_23 rfl rfl ?_
      refine J_iconst Z.1 (v := 5) (by decide) dX12_time_24 ?_
      obtain ⟨x18, h16, q17, hf⟩ := bd2_i hf
      refine J_callV (ci := 10) (as := [.int 5]) (rest := []) (sy := [.int x18]) Z.1 dX12_time_25 cw_X12_143 (pX12_refuse_ok G (dk - 1) (by omega) q17) rfl rfl t0 (zG Z) rfl (by decide) (zF Z (by omega)) (zO Z (by omega) (by decide)) (zM _) Z.2.1 Z.2.1 rfl rfl ?_
      cases hf
      exact J_iret Z.1 Z.2.2.2.2.2 dX12_time_28
  · rw [if_pos c3] at hf
    refine J_aload_n Z.1 0 dX12_time_8 rfl rfl ?_
    refine J_iconst Z.1 (v := 2) (by decide) dX12_time_9 ?_
    obtain ⟨x21, h19, q20, hf⟩ := bd2_i hf
    refine J_callV (ci := 10) (as := [.int 2]) (rest := []) (sy := [.int x21]) Z.1 dX12_time_10 cw_X12_143 (pX12_refuse_ok G (dk - 1) (by omega) q20) rfl rfl t0 (zG Z) rfl (by decide) (zF Z (by omega)) (zO Z (by omega) (by decide)) (zM _) Z.2.1 Z.2.1 rfl rfl ?_
    cases hf
    exact J_iret Z.1 Z.2.2.2.2.2 dX12_time_13
