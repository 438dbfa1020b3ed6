/-! written by wip/whole/gen.py out of the printed bytecode -/
theorem dX9_doElement_0 : decode cX9_doElement 0 = .ok (.aload_n 1, 1) := by decide +kernel
theorem dX9_doElement_1 : decode cX9_doElement 1 = .ok (.getfield 84, 3) := by decide +kernel
theorem dX9_doElement_4 : decode cX9_doElement 4 = .ok (.sipush 128, 3) := by decide +kernel
theorem dX9_doElement_7 : decode cX9_doElement 7 = .ok (.invokevirtual 238, 3) := by decide +kernel
theorem dX9_doElement_10 : decode cX9_doElement 10 = .ok (.ifCond .eq 37, 3) := by decide +kernel
theorem dX9_doElement_13 : decode cX9_doElement 13 = .ok (.aload_n 0, 1) := by decide +kernel
theorem dX9_doElement_14 : decode cX9_doElement 14 = .ok (.getfield 34, 3) := by decide +kernel
theorem dX9_doElement_17 : decode cX9_doElement 17 = .ok (.aload_n 1, 1) := by decide +kernel
theorem dX9_doElement_18 : decode cX9_doElement 18 = .ok (.getfield 189, 3) := by decide +kernel
theorem dX9_doElement_21 : decode cX9_doElement 21 = .ok (.iload_n 2, 1) := by decide +kernel
theorem dX9_doElement_22 : decode cX9_doElement 22 = .ok (.aload_n 0, 1) := by decide +kernel
theorem dX9_doElement_23 : decode cX9_doElement 23 = .ok (.getfield 27, 3) := by decide +kernel
theorem dX9_doElement_26 : decode cX9_doElement 26 = .ok (.invokevirtual 273, 3) := by decide +kernel
theorem dX9_doElement_29 : decode cX9_doElement 29 = .ok (.aload_n 0, 1) := by decide +kernel
theorem dX9_doElement_30 : decode cX9_doElement 30 = .ok (.getfield 34, 3) := by decide +kernel
theorem dX9_doElement_33 : decode cX9_doElement 33 = .ok (.getfield 289, 3) := by decide +kernel
theorem dX9_doElement_36 : decode cX9_doElement 36 = .ok (.iload_n 3, 1) := by decide +kernel
theorem dX9_doElement_37 : decode cX9_doElement 37 = .ok (.aload_n 0, 1) := by decide +kernel
theorem dX9_doElement_38 : decode cX9_doElement 38 = .ok (.getfield 27, 3) := by decide +kernel
theorem dX9_doElement_41 : decode cX9_doElement 41 = .ok (.invokevirtual 179, 3) := by decide +kernel
theorem dX9_doElement_44 : decode cX9_doElement 44 = .ok (.goto 92, 3) := by decide +kernel
theorem dX9_doElement_47 : decode cX9_doElement 47 = .ok (.aload_n 1, 1) := by decide +kernel
theorem dX9_doElement_48 : decode cX9_doElement 48 = .ok (.getfield 84, 3) := by decide +kernel
theorem dX9_doElement_51 : decode cX9_doElement 51 = .ok (.bipush 32, 2) := by decide +kernel
theorem dX9_doElement_53 : decode cX9_doElement 53 = .ok (.invokevirtual 238, 3) := by decide +kernel
theorem dX9_doElement_56 : decode cX9_doElement 56 = .ok (.ifCond .eq 20, 3) := by decide +kernel
theorem dX9_doElement_59 : decode cX9_doElement 59 = .ok (.aload_n 0, 1) := by decide +kernel
theorem dX9_doElement_60 : decode cX9_doElement 60 = .ok (.getfield 34, 3) := by decide +kernel
theorem dX9_doElement_63 : decode cX9_doElement 63 = .ok (.iload_n 2, 1) := by decide +kernel
theorem dX9_doElement_64 : decode cX9_doElement 64 = .ok (.aload_n 0, 1) := by decide +kernel
theorem dX9_doElement_65 : decode cX9_doElement 65 = .ok (.aload_n 1, 1) := by decide +kernel
theorem dX9_doElement_66 : decode cX9_doElement 66 = .ok (.iload_n 2, 1) := by decide +kernel
theorem dX9_doElement_67 : decode cX9_doElement 67 = .ok (.invokevirtual 292, 3) := by decide +kernel
theorem dX9_doElement_70 : decode cX9_doElement 70 = .ok (.invokevirtual 295, 3) := by decide +kernel
theorem dX9_doElement_73 : decode cX9_doElement 73 = .ok (.goto 63, 3) := by decide +kernel
theorem dX9_doElement_76 : decode cX9_doElement 76 = .ok (.aload_n 1, 1) := by decide +kernel
theorem dX9_doElement_77 : decode cX9_doElement 77 = .ok (.getfield 84, 3) := by decide +kernel
theorem dX9_doElement_80 : decode cX9_doElement 80 = .ok (.getstatic 299, 3) := by decide +kernel
theorem dX9_doElement_83 : decode cX9_doElement 83 = .ok (.if_acmp .ne 12, 3) := by decide +kernel
theorem dX9_doElement_86 : decode cX9_doElement 86 = .ok (.aload_n 0, 1) := by decide +kernel
theorem dX9_doElement_87 : decode cX9_doElement 87 = .ok (.aload_n 1, 1) := by decide +kernel
theorem dX9_doElement_88 : decode cX9_doElement 88 = .ok (.iload_n 2, 1) := by decide +kernel
theorem dX9_doElement_89 : decode cX9_doElement 89 = .ok (.invokevirtual 302, 3) := by decide +kernel
theorem dX9_doElement_92 : decode cX9_doElement 92 = .ok (.goto 44, 3) := by decide +kernel
theorem dX9_doElement_95 : decode cX9_doElement 95 = .ok (.aload_n 0, 1) := by decide +kernel
theorem dX9_doElement_96 : decode cX9_doElement 96 = .ok (.aload_n 1, 1) := by decide +kernel
theorem dX9_doElement_97 : decode cX9_doElement 97 = .ok (.iload_n 2, 1) := by decide +kernel
theorem dX9_doElement_98 : decode cX9_doElement 98 = .ok (.iload_n 3, 1) := by decide +kernel
theorem dX9_doElement_99 : decode cX9_doElement 99 = .ok (.invokevirtual 305, 3) := by decide +kernel
theorem dX9_doElement_102 : decode cX9_doElement 102 = .ok (.aload_n 1, 1) := by decide +kernel
theorem dX9_doElement_103 : decode cX9_doElement 103 = .ok (.getfield 308, 3) := by decide +kernel
theorem dX9_doElement_106 : decode cX9_doElement 106 = .ok (.ifCond .eq 14, 3) := by decide +kernel
theorem dX9_doElement_109 : decode cX9_doElement 109 = .ok (.aload_n 0, 1) := by decide +kernel
theorem dX9_doElement_110 : decode cX9_doElement 110 = .ok (.getfield 34, 3) := by decide +kernel
theorem dX9_doElement_113 : decode cX9_doElement 113 = .ok (.iload_n 2, 1) := by decide +kernel
theorem dX9_doElement_114 : decode cX9_doElement 114 = .ok (.invokevirtual 312, 3) := by decide +kernel
theorem dX9_doElement_117 : decode cX9_doElement 117 = .ok (.ifCond .eq 19, 3) := by decide +kernel
theorem dX9_doElement_120 : decode cX9_doElement 120 = .ok (.aload_n 0, 1) := by decide +kernel
theorem dX9_doElement_121 : decode cX9_doElement 121 = .ok (.getfield 34, 3) := by decide +kernel
theorem dX9_doElement_124 : decode cX9_doElement 124 = .ok (.aload_n 1, 1) := by decide +kernel
theorem dX9_doElement_125 : decode cX9_doElement 125 = .ok (.getfield 189, 3) := by decide +kernel
theorem dX9_doElement_128 : decode cX9_doElement 128 = .ok (.iload_n 2, 1) := by decide +kernel
theorem dX9_doElement_129 : decode cX9_doElement 129 = .ok (.aload_n 0, 1) := by decide +kernel
theorem dX9_doElement_130 : decode cX9_doElement 130 = .ok (.getfield 27, 3) := by decide +kernel
theorem dX9_doElement_133 : decode cX9_doElement 133 = .ok (.invokevirtual 315, 3) := by decide +kernel
theorem dX9_doElement_136 : decode cX9_doElement 136 = .ok (.return_, 1) := by decide +kernel
def pX9_doElement_b120 (E : EC) (g : MT) (this : Nat) (p1 : Nat) (p2 : Int32) (p3 : Int32) (h : CT) : Option CT := lt (hR h this 4) fun r1 => (tg g p1 2 (lt (hR h this 2) fun r3 => (nn r1 fun a1 => (tg g a1 3 (nn r3 fun a3 => (bd (pX3_land g h a1 (hI h p1 1) p2 a3) fun h5 => (some h5)))))))
set_option maxRecDepth 10000 in
set_option maxHeartbeats 4000000 in
theorem pX9_doElement_b120_ok {X : Cx} {G : Gx} {dk : Nat} {g : MT} {h0 : CT} {this : Nat} {p1 : Nat} {p2 : Int32} {p3 : Int32} (Z : Zx X G cX9_doElement RX9 4 dk none none g h0) (hK : 3 ≤ dk) {E : EC} (hE : G.2.2.2 = E) (t0 : gT g this = 8) (h : CT) (hf : pX9_doElement_b120 E g this p1 p2 p3 h = some h0) : J X g h 120 [(0, va_rf (some this)), (1, va_rf (some p1)), (2, .int p2)] [] := by
  unfold pX9_doElement_b120 at hf
  refine J_aload_n Z.1 0 dX9_doElement_120 rfl rfl ?_
  refine J_get (v := va_rf (hR h this 4)) Z.1 dX9_doElement_121 fl_X9_34 t0 rfl ?_
  refine J_tr (fun r1 er1 => ?_)
  replace hf := lt_i hf r1 er1
  refine J_aload_n Z.1 1 dX9_doElement_124 rfl rfl ?_
  replace hf := tg_i hf
  obtain ⟨t2, hf⟩ := hf
  refine J_get (v := .int (hI h p1 1)) Z.1 dX9_doElement_125 fl_X9_189 t2 rfl ?_
  refine J_iload_n Z.1 2 dX9_doElement_128 rfl rfl ?_
  refine J_aload_n Z.1 0 dX9_doElement_129 rfl rfl ?_
  refine J_get (v := va_rf (hR h this 2)) Z.1 dX9_doElement_130 fl_X9_27 t0 rfl ?_
  refine J_tr (fun r3 er3 => ?_)
  replace hf := lt_i hf r3 er3
  replace hf := nn_i hf
  obtain ⟨a1, rfl, hf⟩ := hf
  replace hf := tg_i hf
  obtain ⟨t4, hf⟩ := hf
  replace hf := nn_i hf
  obtain ⟨a3, rfl, hf⟩ := hf
  replace hf := bd_i hf
  obtain ⟨h5, q6, hf⟩ := hf
  refine J_callV (ci := 2) (as := [.int (hI h p1 1), .int p2, va_rf (some a3)]) (rest := []) (sy := []) Z.1 dX9_doElement_133 cw_X9_315 (pX3_land_ok G (dk - 1) (by omega) q6) rfl rfl t4 (zG Z) rfl (by decide) (zF Z (by omega)) (zO Z (by omega) (by decide)) (zM _) Z.2.1 Z.2.1 rfl rfl ?_
  cases hf
  exact J_vret Z.1 Z.2.2.2.2.2 dX9_doElement_136
def pX9_doElement (E : EC) (g : MT) (h : CT) (this : Nat) (p1 : Nat) (p2 : Int32) (p3 : Int32) : Option CT := tg g this 8 (tg g p1 2 (lt (hR h p1 0) fun r2 => (nn r2 fun a2 => (tg E.2.2 a2 60 (bd (pX5_does E g h a2 128) fun x4 => (if x4 = 0 then lt (hR h p1 0) fun r7 => (nn r7 fun a7 => (tg E.2.2 a7 60 (bd (pX5_does E g h a7 32) fun x9 => (if x9 = 0 then lt (hR h p1 0) fun r12 => (kR (E.1 26) fun a13 => (if r12 = (some a13) then bd (pX9_packElement g h this p1 p2) fun h23 => (some h23) else bd (pX9_reckon E g h this p1 p2 p3) fun h15 => (if (hI h15 p1 8) = 0 then pX9_doElement_b120 E g this p1 p2 p3  h15 else lt (hR h15 this 4) fun r18 => (nn r18 fun a18 => (tg g a18 3 (bd (pX3_bit g h15 a18 p2) fun x20 => (if x20 = 0 then some h15 else pX9_doElement_b120 E g this p1 p2 p3  h15))))))) else lt (hR h this 4) fun r25 => (bd2 (pX9_holds E g h this p1 p2) fun x28 h26 => (nn r25 fun a25 => (tg g a25 3 (bd (pX3_setBit g h26 a25 p2 x28) fun h30 => (some h30))))))))) else lt (hR h this 4) fun r32 => (lt (hR h this 2) fun r33 => (nn r32 fun a32 => (tg g a32 3 (nn r33 fun a33 => (bd (pX3_fetch g h a32 (hI h p1 1) p2 a33) fun h35 => (lt (hR h35 this 4) fun r37 => (nn r37 fun a37 => (tg g a37 3 (lt (hR h35 a37 3) fun r39 => (lt (hR h35 this 2) fun r40 => (nn r39 fun a39 => (tg g a39 7 (nn r40 fun a40 => (bd (pX8_keep g h35 a39 p3 a40) fun h42 => (some h42)))))))))))))))))))))
set_option maxRecDepth 10000 in
set_option maxHeartbeats 4000000 in
theorem pX9_doElement_ok (G : Gx) (dk : Nat) (hK : 3 ≤ dk) {g : MT} {E : EC} (hE : G.2.2.2 = E) {h h0 : CT} {this : Nat} {p1 : Nat} {p2 : Int32} {p3 : Int32} (hf : pX9_doElement E g h this p1 p2 p3 = some h0) : Ctr G dk yX9_doElement cX9_doElement 4 none [va_rf (some this), va_rf (some p1), .int p2, .int p3] g h none g h0 := by
  refine Ctr.ofZ (lv := [(0, va_rf (some this)), (1, va_rf (some p1)), (2, .int p2), (3, .int p3)]) (by decide +kernel) (by simp [cat_i, cat_l, cat_d, cat_rf]) rfl fun X Z => ?_
  unfold pX9_doElement at hf
  replace hf := tg_i hf
  obtain ⟨t0, hf⟩ := hf
  refine J_aload_n Z.1 1 dX9_doElement_0 rfl rfl ?_
  replace hf := tg_i hf
  obtain ⟨t1, hf⟩ := hf
  refine J_get (v := va_rf (hR h p1 0)) Z.1 dX9_doElement_1 fl_X9_84 t1 rfl ?_
  refine J_tr (fun r2 er2 => ?_)
  replace hf := lt_i hf r2 er2
  refine J_sipush Z.1 (v := 128) (by decide) dX9_doElement_4 ?_
  replace hf := nn_i hf
  obtain ⟨a2, rfl, hf⟩ := hf
  replace hf := tg_i hf
  obtain ⟨t3, hf⟩ := hf
  rw [← zE Z hE] at t3
  replace hf := bd_i hf
  obtain ⟨x4, q5, hf⟩ := hf
  refine J_callK (as := [.int 128]) (rest := []) (sy := [.int x4]) Z.1 dX9_doElement_7 cw_X9_238 (pX5_does_ok G (dk - 1) (by omega) hE q5) (kO Z.1 t3) (zG Z) rfl (by decide) (zF Z (by omega)) (zO Z (by omega) (by decide)) (zM _) Z.2.1 Z.2.1 rfl rfl ?_
  refine J_if_eq Z.1 47 dX9_doElement_10 (by decide) (fun c6 => ?_) (fun c6 => ?_)
  · rw [if_pos c6] at hf
    refine J_aload_n Z.1 1 dX9_doElement_47 rfl rfl ?_
    refine J_get (v := va_rf (hR h p1 0)) Z.1 dX9_doElement_48 fl_X9_84 t1 rfl ?_
    refine J_tr (fun r7 er7 => ?_)
    replace hf := lt_i hf r7 er7
    refine J_bipush Z.1 (v := 32) (by decide) dX9_doElement_51 ?_
    replace hf := nn_i hf
    obtain ⟨a7, rfl, hf⟩ := hf
    replace hf := tg_i hf
    obtain ⟨t8, hf⟩ := hf
    rw [← zE Z hE] at t8
    replace hf := bd_i hf
    obtain ⟨x9, q10, hf⟩ := hf
    refine J_callK (as := [.int 32]) (rest := []) (sy := [.int x9]) Z.1 dX9_doElement_53 cw_X9_238 (pX5_does_ok G (dk - 1) (by omega) hE q10) (kO Z.1 t8) (zG Z) rfl (by decide) (zF Z (by omega)) (zO Z (by omega) (by decide)) (zM _) Z.2.1 Z.2.1 rfl rfl ?_
    refine J_if_eq Z.1 76 dX9_doElement_56 (by decide) (fun c11 => ?_) (fun c11 => ?_)
    · rw [if_pos c11] at hf
      refine J_aload_n Z.1 1 dX9_doElement_76 rfl rfl ?_
      refine J_get (v := va_rf (hR h p1 0)) Z.1 dX9_doElement_77 fl_X9_84 t1 rfl ?_
      refine J_tr (fun r12 er12 => ?_)
      replace hf := lt_i hf r12 er12
      replace hf := kR_i hf
      obtain ⟨a13, ea13, hf⟩ := hf
      refine J_gets (i := 26) (v := va_rf (some a13)) Z.1 dX9_doElement_80 rfl q_1196 (zEv Z hE ea13) rfl ?_
      refine J_acmp_ne Z.1 95 dX9_doElement_83 (by decide) (fun c14 => ?_) (fun c14 => ?_)
      · rw [if_neg c14] at hf
        refine J_aload_n Z.1 0 dX9_doElement_95 rfl rfl ?_
        refine J_aload_n Z.1 1 dX9_doElement_96 rfl rfl ?_
        refine J_iload_n Z.1 2 dX9_doElement_97 rfl rfl ?_
        refine J_iload_n Z.1 3 dX9_doElement_98 rfl rfl ?_
        replace hf := bd_i hf
        obtain ⟨h15, q16, hf⟩ := hf
        refine J_callV (ci := 7) (as := [va_rf (some p1), .int p2, .int p3]) (rest := []) (sy := []) Z.1 dX9_doElement_99 cw_X9_305 (pX9_reckon_ok G (dk - 1) (by omega) hE q16) rfl rfl t0 (zG Z) rfl (by decide) (zF Z (by omega)) (zO Z (by omega) (by decide)) (zM _) Z.2.1 Z.2.1 rfl rfl ?_
        refine J_aload_n Z.1 1 dX9_doElement_102 rfl rfl ?_
        refine J_get (v := .int (hI h15 p1 8)) Z.1 dX9_doElement_103 fl_X9_308 t1 rfl ?_
        refine J_if_eq Z.1 120 dX9_doElement_106 (by decide) (fun c17 => ?_) (fun c17 => ?_)
        · rw [if_pos c17] at hf
          refine J_lv [0, 1, 2] rfl ?_
          exact pX9_doElement_b120_ok Z hK hE t0  _ hf
        · rw [if_neg c17] at hf
          refine J_aload_n Z.1 0 dX9_doElement_109 rfl rfl ?_
          refine J_get (v := va_rf (hR h15 this 4)) Z.1 dX9_doElement_110 fl_X9_34 t0 rfl ?_
          refine J_tr (fun r18 er18 => ?_)
          replace hf := lt_i hf r18 er18
          refine J_iload_n Z.1 2 dX9_doElement_113 rfl rfl ?_
          replace hf := nn_i hf
          obtain ⟨a18, rfl, hf⟩ := hf
          replace hf := tg_i hf
          obtain ⟨t19, hf⟩ := hf
          replace hf := bd_i hf
          obtain ⟨x20, q21, hf⟩ := hf
          refine J_callV (ci := 2) (as := [.int p2]) (rest := []) (sy := [.int x20]) Z.1 dX9_doElement_114 cw_X9_312 (pX3_bit_ok G (dk - 1) (by omega) q21) rfl rfl t19 (zG Z) rfl (by decide) (zF Z (by omega)) (zO Z (by omega) (by decide)) (zM _) Z.2.1 Z.2.1 rfl rfl ?_
          refine J_if_eq Z.1 136 dX9_doElement_117 (by decide) (fun c22 => ?_) (fun c22 => ?_)
          · rw [if_pos c22] at hf
            cases hf
            exact J_vret Z.1 Z.2.2.2.2.2 dX9_doElement_136
          · rw [if_neg c22] at hf
            refine J_lv [0, 1, 2] rfl ?_
            exact pX9_doElement_b120_ok Z hK hE t0  _ hf
      · rw [if_pos c14] at hf
        refine J_aload_n Z.1 0 dX9_doElement_86 rfl rfl ?_
        refine J_aload_n Z.1 1 dX9_doElement_87 rfl rfl ?_
        refine J_iload_n Z.1 2 dX9_doElement_88 rfl rfl ?_
        replace hf := bd_i hf
        obtain ⟨h23, q24, hf⟩ := hf
        refine J_callV (ci := 7) (as := [va_rf (some p1), .int p2]) (rest := []) (sy := []) Z.1 dX9_doElement_89 cw_X9_302 (pX9_packElement_ok G (dk - 1) (by omega) q24) rfl rfl t0 (zG Z) rfl (by decide) (zF Z (by omega)) (zO Z (by omega) (by decide)) (zM _) Z.2.1 Z.2.1 rfl rfl ?_
        refine J_goto Z.1 136 dX9_doElement_92 (by decide) ?_
        cases hf
        exact J_vret Z.1 Z.2.2.2.2.2 dX9_doElement_136
    · rw [if_neg c11] at hf
      refine J_aload_n Z.1 0 dX9_doElement_59 rfl rfl ?_
      refine J_get (v := va_rf (hR h this 4)) Z.1 dX9_doElement_60 fl_X9_34 t0 rfl ?_
      refine J_tr (fun r25 er25 => ?_)
      replace hf := lt_i hf r25 er25
      refine J_iload_n Z.1 2 dX9_doElement_63 rfl rfl ?_
      refine J_aload_n Z.1 0 dX9_doElement_64 rfl rfl ?_
      refine J_aload_n Z.1 1 dX9_doElement_65 rfl rfl ?_
      refine J_iload_n Z.1 2 dX9_doElement_66 rfl rfl ?_
      replace hf := bd2_i hf
      obtain ⟨x28, h26, q27, hf⟩ := hf
      refine J_callV (ci := 7) (as := [va_rf (some p1), .int p2]) (rest := [.int p2, va_rf r25]) (sy := [.int x28, .int p2, va_rf r25]) Z.1 dX9_doElement_67 cw_X9_292 (pX9_holds_ok G (dk - 1) (by omega) hE q27) rfl rfl t0 (zG Z) rfl (by simp [cat_i, cat_l, cat_d, cat_rf]) (zF Z (by omega)) (zO Z (by omega) (by decide)) (zM _) Z.2.1 Z.2.1 rfl rfl ?_
      replace hf := nn_i hf
      obtain ⟨a25, rfl, hf⟩ := hf
      replace hf := tg_i hf
      obtain ⟨t29, hf⟩ := hf
      replace hf := bd_i hf
      obtain ⟨h30, q31, hf⟩ := hf
      refine J_callV (ci := 2) (as := [.int p2, .int x28]) (rest := []) (sy := []) Z.1 dX9_doElement_70 cw_X9_295 (pX3_setBit_ok G (dk - 1) (by omega) q31) rfl rfl t29 (zG Z) rfl (by decide) (zF Z (by omega)) (zO Z (by omega) (by decide)) (zM _) Z.2.1 Z.2.1 rfl rfl ?_
      refine J_goto Z.1 136 dX9_doElement_73 (by decide) ?_
      cases hf
      exact J_vret Z.1 Z.2.2.2.2.2 dX9_doElement_136
  · rw [if_neg c6] at hf
    refine J_aload_n Z.1 0 dX9_doElement_13 rfl rfl ?_
    refine J_get (v := va_rf (hR h this 4)) Z.1 dX9_doElement_14 fl_X9_34 t0 rfl ?_
    refine J_tr (fun r32 er32 => ?_)
    replace hf := lt_i hf r32 er32
    refine J_aload_n Z.1 1 dX9_doElement_17 rfl rfl ?_
    refine J_get (v := .int (hI h p1 1)) Z.1 dX9_doElement_18 fl_X9_189 t1 rfl ?_
    refine J_iload_n Z.1 2 dX9_doElement_21 rfl rfl ?_
    refine J_aload_n Z.1 0 dX9_doElement_22 rfl rfl ?_
    refine J_get (v := va_rf (hR h this 2)) Z.1 dX9_doElement_23 fl_X9_27 t0 rfl ?_
    refine J_tr (fun r33 er33 => ?_)
    replace hf := lt_i hf r33 er33
    replace hf := nn_i hf
    obtain ⟨a32, rfl, hf⟩ := hf
    replace hf := tg_i hf
    obtain ⟨t34, hf⟩ := hf
    replace hf := nn_i hf
    obtain ⟨a33, rfl, hf⟩ := hf
    replace hf := bd_i hf
    obtain ⟨h35, q36, hf⟩ := hf
    refine J_callV (ci := 2) (as := [.int (hI h p1 1), .int p2, va_rf (some a33)]) (rest := []) (sy := []) Z.1 dX9_doElement_26 cw_X9_273 (pX3_fetch_ok G (dk - 1) (by omega) q36) rfl rfl t34 (zG Z) rfl (by decide) (zF Z (by omega)) (zO Z (by omega) (by decide)) (zM _) Z.2.1 Z.2.1 rfl rfl ?_
    refine J_aload_n Z.1 0 dX9_doElement_29 rfl rfl ?_
    refine J_get (v := va_rf (hR h35 this 4)) Z.1 dX9_doElement_30 fl_X9_34 t0 rfl ?_
    refine J_tr (fun r37 er37 => ?_)
    replace hf := lt_i hf r37 er37
    replace hf := nn_i hf
    obtain ⟨a37, rfl, hf⟩ := hf
    replace hf := tg_i hf
    obtain ⟨t38, hf⟩ := hf
    refine J_get (v := va_rf (hR h35 a37 3)) Z.1 dX9_doElement_33 fl_X9_289 t38 rfl ?_
    refine J_tr (fun r39 er39 => ?_)
    replace hf := lt_i hf r39 er39
    refine J_iload_n Z.1 3 dX9_doElement_36 rfl rfl ?_
    refine J_aload_n Z.1 0 dX9_doElement_37 rfl rfl ?_
    refine J_get (v := va_rf (hR h35 this 2)) Z.1 dX9_doElement_38 fl_X9_27 t0 rfl ?_
    refine J_tr (fun r40 er40 => ?_)
    replace hf := lt_i hf r40 er40
    replace hf := nn_i hf
    obtain ⟨a39, rfl, hf⟩ := hf
    replace hf := tg_i hf
    obtain ⟨t41, hf⟩ := hf
    replace hf := nn_i hf
    obtain ⟨a40, rfl, hf⟩ := hf
    replace hf := bd_i hf
    obtain ⟨h42, q43, hf⟩ := hf
    refine J_callV (ci := 6) (as := [.int p3, va_rf (some a40)]) (rest := []) (sy := []) Z.1 dX9_doElement_41 cw_X9_179 (pX8_keep_ok G (dk - 1) (by omega) q43) rfl rfl t41 (zG Z) rfl (by decide) (zF Z (by omega)) (zO Z (by omega) (by decide)) (zM _) Z.2.1 Z.2.1 rfl rfl ?_
    refine J_goto Z.1 136 dX9_doElement_44 (by decide) ?_
    cases hf
    exact J_vret Z.1 Z.2.2.2.2.2 dX9_doElement_136
theorem dX12_tellOf_0 : decode cX12_tellOf 0 = .ok (.aload_n 0, 1) := by decide +kernel
theorem dX12_tellOf_1 : decode cX12_tellOf 1 = .ok (.aload_n 0, 1) := by decide +kernel
theorem dX12_tellOf_2 : decode cX12_tellOf 2 = .ok (.getfield 41, 3) := by decide +kernel
theorem dX12_tellOf_5 : decode cX12_tellOf 5 = .ok (.aload_n 1, 1) := by decide +kernel
theorem dX12_tellOf_6 : decode cX12_tellOf 6 = .ok (.invokevirtual 101, 3) := by decide +kernel
theorem dX12_tellOf_9 : decode cX12_tellOf 9 = .ok (.invokevirtual 105, 3) := by decide +kernel
theorem dX12_tellOf_12 : decode cX12_tellOf 12 = .ok (.ireturn, 1) := by decide +kernel
def pX12_tellOf (g : MT) (h : CT) (this : Nat) (p1 : Nat) : Option ((Int32) × CT) := tg g this 11 (lt (hR h this 14) fun r1 => (nn r1 fun a1 => (tg g a1 1 (bd2 (pX1_tellKind g h a1 p1) fun x5 h3 => (bd2 (pX12_answer g h3 this x5) fun x8 h6 => (some (x8, h6)))))))
set_option maxRecDepth 10000 in
set_option maxHeartbeats 4000000 in
theorem pX12_tellOf_ok (G : Gx) (dk : Nat) (hK : 3 ≤ dk) {g : MT} {h h0 : CT} {this : Nat} {p1 : Nat} {r0 : Int32} (hf : pX12_tellOf g h this p1 = some (r0, h0)) : Ctr G dk yX12_tellOf cX12_tellOf 2 (some .int) [va_rf (some this), va_rf (some p1)] g h (some (.int r0)) g h0 := by
  refine Ctr.ofZ (lv := [(0, va_rf (some this)), (1, va_rf (some p1))]) (by decide +kernel) (by simp [cat_i, cat_l, cat_d, cat_rf]) rfl fun X Z => ?_
  unfold pX12_tellOf at hf
  replace hf := tg_i hf
  obtain ⟨t0, hf⟩ := hf
  refine J_aload_n Z.1 0 dX12_tellOf_0 rfl rfl ?_
  refine J_aload_n Z.1 0 dX12_tellOf_1 rfl rfl ?_
  refine J_get (v := va_rf (hR h this 14)) Z.1 dX12_tellOf_2 fl_X12_41 t0 rfl ?_
  refine J_tr (fun r1 er1 => ?_)
  replace hf := lt_i hf r1 er1
  refine J_aload_n Z.1 1 dX12_tellOf_5 rfl rfl ?_
  replace hf := nn_i hf
  obtain ⟨a1, rfl, hf⟩ := hf
  replace hf := tg_i hf
  obtain ⟨t2, hf⟩ := hf
  replace hf := bd2_i hf
  obtain ⟨x5, h3, q4, hf⟩ := hf
  refine J_callV (ci := 0) (as := [va_rf (some p1)]) (rest := [va_rf (some this)]) (sy := [.int x5, va_rf (some this)]) Z.1 dX12_tellOf_6 cw_X12_101 (pX1_tellKind_ok G (dk - 1) (by omega) q4) rfl rfl t2 (zG Z) rfl (by simp [cat_i, cat_l, cat_d, cat_rf]) (zF Z (by omega)) (zO Z (by omega) (by decide)) (zM _) Z.2.1 Z.2.1 rfl rfl ?_
  replace hf := bd2_i hf
  obtain ⟨x8, h6, q7, hf⟩ := hf
  refine J_callV (ci := 10) (as := [.int x5]) (rest := []) (sy := [.int x8]) Z.1 dX12_tellOf_9 cw_X12_105 (pX12_answer_ok G (dk - 1) (by omega) q7) rfl rfl t0 (zG Z) rfl (by decide) (zF Z (by omega)) (zO Z (by omega) (by decide)) (zM _) Z.2.1 Z.2.1 rfl rfl ?_
  cases hf
  exact J_iret Z.1 Z.2.2.2.2.2 dX12_tellOf_12
theorem dX12_write_0 : decode cX12_write 0 = .ok (.aload_n 0, 1) := by decide +kernel
theorem dX12_write_1 : decode cX12_write 1 = .ok (.iload_n 1, 1) := by decide +kernel
theorem dX12_write_2 : decode cX12_write 2 = .ok (.iload_n 2, 1) := by decide +kernel
theorem dX12_write_3 : decode cX12_write 3 = .ok (.invokevirtual 135, 3) := by decide +kernel
theorem dX12_write_6 : decode cX12_write 6 = .ok (.istore 5, 2) := by decide +kernel
theorem dX12_write_8 : decode cX12_write 8 = .ok (.iload 5, 2) := by decide +kernel
theorem dX12_write_10 : decode cX12_write 10 = .ok (.ifCond .eq 10, 3) := by decide +kernel
theorem dX12_write_13 : decode cX12_write 13 = .ok (.aload_n 0, 1) := by decide +kernel
theorem dX12_write_14 : decode cX12_write 14 = .ok (.iload 5, 2) := by decide +kernel
theorem dX12_write_16 : decode cX12_write 16 = .ok (.invokevirtual 117, 3) := by decide +kernel
theorem dX12_write_19 : decode cX12_write 19 = .ok (.ireturn, 1) := by decide +kernel
theorem dX12_write_20 : decode cX12_write 20 = .ok (.aload_n 0, 1) := by decide +kernel
theorem dX12_write_21 : decode cX12_write 21 = .ok (.getfield 11, 3) := by decide +kernel
theorem dX12_write_24 : decode cX12_write 24 = .ok (.iload_n 1, 1) := by decide +kernel
theorem dX12_write_25 : decode cX12_write 25 = .ok (.aaload, 1) := by decide +kernel
theorem dX12_write_26 : decode cX12_write 26 = .ok (.iload_n 2, 1) := by decide +kernel
theorem dX12_write_27 : decode cX12_write 27 = .ok (.lload_n 3, 1) := by decide +kernel
theorem dX12_write_28 : decode cX12_write 28 = .ok (.invokevirtual 139, 3) := by decide +kernel
theorem dX12_write_31 : decode cX12_write 31 = .ok (.aload_n 0, 1) := by decide +kernel
theorem dX12_write_32 : decode cX12_write 32 = .ok (.invokevirtual 124, 3) := by decide +kernel
theorem dX12_write_35 : decode cX12_write 35 = .ok (.ireturn, 1) := by decide +kernel
def pX12_write (g : MT) (h : CT) (this : Nat) (p1 : Int32) (p2 : Int32) (p3 : Int64) : Option ((Int32) × CT) := tg g this 11 (bd (pX12_trayTrouble g h this p1 p2) fun x1 => (if x1 = 0 then lt (hR h this 0) fun r4 => (nn r4 fun a4 => (tg g a4 28 (ix (gL g a4) p1 (lt (hR h a4 (Int32.toNatClampNeg p1)) fun r7 => (nn r7 fun a7 => (tg g a7 10 (bd (pX11_keep g h a7 p2 p3) fun h9 => (bd2 (pX12_agree g h9 this) fun x13 h11 => (bz x13 (some (x13, h11))))))))))) else bd2 (pX12_deny g h this x1) fun x17 h15 => (bz x17 (some (x17, h15)))))
set_option maxRecDepth 10000 in
set_option maxHeartbeats 4000000 in
theorem pX12_write_ok (G : Gx) (dk : Nat) (hK : 3 ≤ dk) {g : MT} {h h0 : CT} {this : Nat} {p1 : Int32} {p2 : Int32} {p3 : Int64} {r0 : Int32} (hf : pX12_write g h this p1 p2 p3 = some (r0, h0)) : Ctr G dk yX12_write cX12_write 6 (some .boolean) [va_rf (some this), .int p1, .int p2, .long p3] g h (some (.int r0)) g h0 := by
  refine Ctr.ofZ (lv := [(0, va_rf (some this)), (1, .int p1), (2, .int p2), (3, .long p3)]) (by decide +kernel) (by simp [cat_i, cat_l, cat_d, cat_rf]) rfl fun X Z => ?_
  unfold pX12_write at hf
  replace hf := tg_i hf
  obtain ⟨t0, hf⟩ := hf
  refine J_aload_n Z.1 0 dX12_write_0 rfl rfl ?_
  refine J_iload_n Z.1 1 dX12_write_1 rfl rfl ?_
  refine J_iload_n Z.1 2 dX12_write_2 rfl rfl ?_
  replace hf := bd_i hf
  obtain ⟨x1, q2, hf⟩ := hf
  refine J_callV (ci := 10) (as := [.int p1, .int p2]) (rest := []) (sy := [.int x1]) Z.1 dX12_write_3 cw_X12_135 (pX12_trayTrouble_ok G (dk - 1) (by omega) q2) rfl rfl t0 (zG Z) rfl (by decide) (zF Z (by omega)) (zO Z (by omega) (by decide)) (zM _) Z.2.1 Z.2.1 rfl rfl ?_
  refine J_istore Z.1 (lv2 := [(5, .int x1), (0, va_rf (some this)), (1, .int p1), (2, .int p2), (3, .long p3)]) dX12_write_6 (zL Z (by decide)) rfl ?_
  refine J_iload Z.1 0 dX12_write_8 rfl ?_
  refine J_if_eq Z.1 20 dX12_write_10 (by decide) (fun c3 => ?_) (fun c3 => ?_)
  · rw [if_pos c3] at hf
    refine J_aload_n Z.1 1 dX12_write_20 rfl rfl ?_
    refine J_get (v := va_rf (hR h this 0)) Z.1 dX12_write_21 fl_X12_11 t0 rfl ?_
    refine J_tr (fun r4 er4 => ?_)
    replace hf := lt_i hf r4 er4
    refine J_iload_n Z.1 2 dX12_write_24 rfl rfl ?_
    replace hf := nn_i hf
    obtain ⟨a4, rfl, hf⟩ := hf
    replace hf := tg_i hf
    obtain ⟨t5, hf⟩ := hf
    replace hf := ix_i hf
    obtain ⟨i6, hf⟩ := hf
    refine J_aaload (t := 8) Z.1 dX12_write_25 t5 rfl i6 ?_
    refine J_tr (fun r7 er7 => ?_)
    replace hf := lt_i hf r7 er7
    refine J_iload_n Z.1 3 dX12_write_26 rfl rfl ?_
    refine J_lload_n Z.1 4 dX12_write_27 rfl rfl ?_
    replace hf := nn_i hf
    obtain ⟨a7, rfl, hf⟩ := hf
    replace hf := tg_i hf
    obtain ⟨t8, hf⟩ := hf
    replace hf := bd_i hf
    obtain ⟨h9, q10, hf⟩ := hf
    refine J_callV (ci := 9) (as := [.int p2, .long p3]) (rest := []) (sy := []) Z.1 dX12_write_28 cw_X12_139 (pX11_keep_ok G (dk - 1) (by omega) q10) rfl rfl t8 (zG Z) rfl (by decide) (zF Z (by omega)) (zO Z (by omega) (by decide)) (zM _) Z.2.1 Z.2.1 rfl rfl ?_
    refine J_aload_n Z.1 1 dX12_write_31 rfl rfl ?_
    replace hf := bd2_i hf
    obtain ⟨x13, h11, q12, hf⟩ := hf
    refine J_callV (ci := 10) (as := []) (rest := []) (sy := [.int x13]) Z.1 dX12_write_32 cw_X12_124 (pX12_agree_ok G (dk - 1) (by omega) q12) rfl rfl t0 (zG Z) rfl (by decide) (zF Z (by omega)) (zO Z (by omega) (by decide)) (zM _) Z.2.1 Z.2.1 rfl rfl ?_
    replace hf := bz_i hf
    obtain ⟨z14, hf⟩ := hf
    cases hf
    exact J_zret Z.1 Z.2.2.2.2.2 (z_n z14) dX12_write_35
  · rw [if_neg c3] at hf
    refine J_aload_n Z.1 1 dX12_write_13 rfl rfl ?_
    refine J_iload Z.1 0 dX12_write_14 rfl ?_
    replace hf := bd2_i hf
    obtain ⟨x17, h15, q16, hf⟩ := hf
    refine J_callV (ci := 10) (as := [.int x1]) (rest := []) (sy := [.int x17]) Z.1 dX12_write_16 cw_X12_117 (pX12_deny_ok G (dk - 1) (by omega) q16) rfl rfl t0 (zG Z) rfl (by decide) (zF Z (by omega)) (zO Z (by omega) (by decide)) (zM _) Z.2.1 Z.2.1 rfl rfl ?_
    replace hf := bz_i hf
    obtain ⟨z18, hf⟩ := hf
    cases hf
    exact J_zret Z.1 Z.2.2.2.2.2 (z_n z18) dX12_write_19
theorem dX12_feed_0 : decode cX12_feed 0 = .ok (.aload_n 0, 1) := by decide +kernel
theorem dX12_feed_1 : decode cX12_feed 1 = .ok (.getfield 167, 3) := by decide +kernel
theorem dX12_feed_4 : decode cX12_feed 4 = .ok (.bipush 20, 2) := by decide +kernel
theorem dX12_feed_6 : decode cX12_feed 6 = .ok (.iadd, 1) := by decide +kernel
theorem dX12_feed_7 : decode cX12_feed 7 = .ok (.sipush 900, 3) := by decide +kernel
theorem dX12_feed_10 : decode cX12_feed 10 = .ok (.if_icmp .le 5, 3) := by decide +kernel
theorem dX12_feed_13 : decode cX12_feed 13 = .ok (.iconst (-1), 1) := by decide +kernel
theorem dX12_feed_14 : decode cX12_feed 14 = .ok (.ireturn, 1) := by decide +kernel
theorem dX12_feed_15 : decode cX12_feed 15 = .ok (.aload_n 0, 1) := by decide +kernel
theorem dX12_feed_16 : decode cX12_feed 16 = .ok (.iload_n 1, 1) := by decide +kernel
theorem dX12_feed_17 : decode cX12_feed 17 = .ok (.invokevirtual 170, 3) := by decide +kernel
theorem dX12_feed_20 : decode cX12_feed 20 = .ok (.aload_n 0, 1) := by decide +kernel
theorem dX12_feed_21 : decode cX12_feed 21 = .ok (.iload_n 2, 1) := by decide +kernel
theorem dX12_feed_22 : decode cX12_feed 22 = .ok (.invokevirtual 170, 3) := by decide +kernel
theorem dX12_feed_25 : decode cX12_feed 25 = .ok (.aload_n 0, 1) := by decide +kernel
theorem dX12_feed_26 : decode cX12_feed 26 = .ok (.iload_n 3, 1) := by decide +kernel
theorem dX12_feed_27 : decode cX12_feed 27 = .ok (.invokevirtual 170, 3) := by decide +kernel
theorem dX12_feed_30 : decode cX12_feed 30 = .ok (.aload_n 0, 1) := by decide +kernel
theorem dX12_feed_31 : decode cX12_feed 31 = .ok (.iload 4, 2) := by decide +kernel
theorem dX12_feed_33 : decode cX12_feed 33 = .ok (.invokevirtual 170, 3) := by decide +kernel
theorem dX12_feed_36 : decode cX12_feed 36 = .ok (.aload_n 0, 1) := by decide +kernel
theorem dX12_feed_37 : decode cX12_feed 37 = .ok (.iload 5, 2) := by decide +kernel
theorem dX12_feed_39 : decode cX12_feed 39 = .ok (.invokevirtual 170, 3) := by decide +kernel
theorem dX12_feed_42 : decode cX12_feed 42 = .ok (.aload_n 0, 1) := by decide +kernel
theorem dX12_feed_43 : decode cX12_feed 43 = .ok (.getfield 167, 3) := by decide +kernel
theorem dX12_feed_46 : decode cX12_feed 46 = .ok (.ireturn, 1) := by decide +kernel
def pX12_feed (g : MT) (h : CT) (this : Nat) (p1 : Int32) (p2 : Int32) (p3 : Int32) (p4 : Int32) (p5 : Int32) : Option ((Int32) × CT) := tg g this 11 (if ((hI h this 2) + 20) ≤ 900 then bd (pX12_tapeInt g h this p1) fun h2 => (bd (pX12_tapeInt g h2 this p2) fun h4 => (bd (pX12_tapeInt g h4 this p3) fun h6 => (bd (pX12_tapeInt g h6 this p4) fun h8 => (bd (pX12_tapeInt g h8 this p5) fun h10 => (some ((hI h10 this 2), h10)))))) else some ((-1), h))
set_option maxRecDepth 10000 in
set_option maxHeartbeats 4000000 in
theorem pX12_feed_ok (G : Gx) (dk : Nat) (hK : 1 ≤ dk) {g : MT} {h h0 : CT} {this : Nat} {p1 : Int32} {p2 : Int32} {p3 : Int32} {p4 : Int32} {p5 : Int32} {r0 : Int32} (hf : pX12_feed g h this p1 p2 p3 p4 p5 = some (r0, h0)) : Ctr G dk yX12_feed cX12_feed 6 (some .int) [va_rf (some this), .int p1, .int p2, .int p3, .int p4, .int p5] g h (some (.int r0)) g h0 := by
  refine Ctr.ofZ (lv := [(0, va_rf (some this)), (1, .int p1), (2, .int p2), (3, .int p3), (4, .int p4), (5, .int p5)]) (by decide +kernel) (by simp [cat_i, cat_l, cat_d, cat_rf]) rfl fun X Z => ?_
  unfold pX12_feed at hf
  replace hf := tg_i hf
  obtain ⟨t0, hf⟩ := hf
  refine J_aload_n Z.1 0 dX12_feed_0 rfl rfl ?_
  refine J_get (v := .int (hI h this 2)) Z.1 dX12_feed_1 fl_X12_167 t0 rfl ?_
  refine J_bipush Z.1 (v := 20) (by decide) dX12_feed_4 ?_
  refine J_iadd Z.1 dX12_feed_6 ?_
  refine J_sipush Z.1 (v := 900) (by decide) dX12_feed_7 ?_
  refine J_icmp_le Z.1 15 dX12_feed_10 (by decide) (fun c1 => ?_) (fun c1 => ?_)
  · rw [if_pos c1] at hf
    refine J_aload_n Z.1 0 dX12_feed_15 rfl rfl ?_
    refine J_iload_n Z.1 1 dX12_feed_16 rfl rfl ?_
    replace hf := bd_i hf
    obtain ⟨h2, q3, hf⟩ := hf
    refine J_callV (ci := 10) (as := [.int p1]) (rest := []) (sy := []) Z.1 dX12_feed_17 cw_X12_170 (pX12_tapeInt_ok G (dk - 1) (by omega) q3) rfl rfl t0 (zG Z) rfl (by decide) (zF Z (by omega)) (zO Z (by omega) (by decide)) (zM _) Z.2.1 Z.2.1 rfl rfl ?_
    refine J_aload_n Z.1 0 dX12_feed_20 rfl rfl ?_
    refine J_iload_n Z.1 2 dX12_feed_21 rfl rfl ?_
    replace hf := bd_i hf
    obtain ⟨h4, q5, hf⟩ := hf
    refine J_callV (ci := 10) (as := [.int p2]) (rest := []) (sy := []) Z.1 dX12_feed_22 cw_X12_170 (pX12_tapeInt_ok G (dk - 1) (by omega) q5) rfl rfl t0 (zG Z) rfl (by decide) (zF Z (by omega)) (zO Z (by omega) (by decide)) (zM _) Z.2.1 Z.2.1 rfl rfl ?_
    refine J_aload_n Z.1 0 dX12_feed_25 rfl rfl ?_
    refine J_iload_n Z.1 3 dX12_feed_26 rfl rfl ?_
    replace hf := bd_i hf
    obtain ⟨h6, q7, hf⟩ := hf
    refine J_callV (ci := 10) (as := [.int p3]) (rest := []) (sy := []) Z.1 dX12_feed_27 cw_X12_170 (pX12_tapeInt_ok G (dk - 1) (by omega) q7) rfl rfl t0 (zG Z) rfl (by decide) (zF Z (by omega)) (zO Z (by omega) (by decide)) (zM _) Z.2.1 Z.2.1 rfl rfl ?_
    refine J_aload_n Z.1 0 dX12_feed_30 rfl rfl ?_
    refine J_iload Z.1 4 dX12_feed_31 rfl ?_
    replace hf := bd_i hf
    obtain ⟨h8, q9, hf⟩ := hf
    refine J_callV (ci := 10) (as := [.int p4]) (rest := []) (sy := []) Z.1 dX12_feed_33 cw_X12_170 (pX12_tapeInt_ok G (dk - 1) (by omega) q9) rfl rfl t0 (zG Z) rfl (by decide) (zF Z (by omega)) (zO Z (by omega) (by decide)) (zM _) Z.2.1 Z.2.1 rfl rfl ?_
    refine J_aload_n Z.1 0 dX12_feed_36 rfl rfl ?_
    refine J_iload Z.1 5 dX12_feed_37 rfl ?_
    replace hf := bd_i hf
    obtain ⟨h10, q11, hf⟩ := hf
    refine J_callV (ci := 10) (as := [.int p5]) (rest := []) (sy := []) Z.1 dX12_feed_39 cw_X12_170 (pX12_tapeInt_ok G (dk - 1) (by omega) q11) rfl rfl t0 (zG Z) rfl (by decide) (zF Z (by omega)) (zO Z (by omega) (by decide)) (zM _) Z.2.1 Z.2.1 rfl rfl ?_
    refine J_aload_n Z.1 0 dX12_feed_42 rfl rfl ?_
    refine J_get (v := .int (hI h10 this 2)) Z.1 dX12_feed_43 fl_X12_167 t0 rfl ?_
    cases hf
    exact J_iret Z.1 Z.2.2.2.2.2 dX12_feed_46
  · rw [if_neg c1] at hf
    refine J_iconst Z.1 (v := (-1)) (by decide) dX12_feed_13 ?_
    cases hf
    exact J_iret Z.1 Z.2.2.2.2.2 dX12_feed_14
theorem dX12_element_0 : decode cX12_element 0 = .ok (.iload_n 2, 1) := by decide +kernel
theorem dX12_element_1 : decode cX12_element 1 = .ok (.iconst 0, 1) := by decide +kernel
theorem dX12_element_2 : decode cX12_element 2 = .ok (.bipush 15, 2) := by decide +kernel
theorem dX12_element_4 : decode cX12_element 4 = .ok (.invokestatic 109, 3) := by decide +kernel
theorem dX12_element_7 : decode cX12_element 7 = .ok (.ifCond .ne 9, 3) := by decide +kernel
theorem dX12_element_10 : decode cX12_element 10 = .ok (.aload_n 0, 1) := by decide +kernel
theorem dX12_element_11 : decode cX12_element 11 = .ok (.iconst 2, 1) := by decide +kernel
theorem dX12_element_12 : decode cX12_element 12 = .ok (.invokevirtual 143, 3) := by decide +kernel
theorem dX12_element_15 : decode cX12_element 15 = .ok (.ireturn, 1) := by decide +kernel
theorem dX12_element_16 : decode cX12_element 16 = .ok (.aload_n 0, 1) := by decide +kernel
theorem dX12_element_17 : decode cX12_element 17 = .ok (.iload_n 1, 1) := by decide +kernel
theorem dX12_element_18 : decode cX12_element 18 = .ok (.invokevirtual 216, 3) := by decide +kernel
theorem dX12_element_21 : decode cX12_element 21 = .ok (.istore_n 3, 1) := by decide +kernel
theorem dX12_element_22 : decode cX12_element 22 = .ok (.iload_n 3, 1) := by decide +kernel
theorem dX12_element_23 : decode cX12_element 23 = .ok (.ifCond .eq 9, 3) := by decide +kernel
theorem dX12_element_26 : decode cX12_element 26 = .ok (.aload_n 0, 1) := by decide +kernel
theorem dX12_element_27 : decode cX12_element 27 = .ok (.iload_n 3, 1) := by decide +kernel
theorem dX12_element_28 : decode cX12_element 28 = .ok (.invokevirtual 143, 3) := by decide +kernel
theorem dX12_element_31 : decode cX12_element 31 = .ok (.ireturn, 1) := by decide +kernel
theorem dX12_element_32 : decode cX12_element 32 = .ok (.aload_n 0, 1) := by decide +kernel
theorem dX12_element_33 : decode cX12_element 33 = .ok (.getfield 30, 3) := by decide +kernel
theorem dX12_element_36 : decode cX12_element 36 = .ok (.getfield 219, 3) := by decide +kernel
theorem dX12_element_39 : decode cX12_element 39 = .ok (.iload_n 1, 1) := by decide +kernel
theorem dX12_element_40 : decode cX12_element 40 = .ok (.aaload, 1) := by decide +kernel
theorem dX12_element_41 : decode cX12_element 41 = .ok (.iload_n 2, 1) := by decide +kernel
theorem dX12_element_42 : decode cX12_element 42 = .ok (.aload_n 0, 1) := by decide +kernel
theorem dX12_element_43 : decode cX12_element 43 = .ok (.getfield 77, 3) := by decide +kernel
theorem dX12_element_46 : decode cX12_element 46 = .ok (.invokevirtual 223, 3) := by decide +kernel
theorem dX12_element_49 : decode cX12_element 49 = .ok (.aload_n 0, 1) := by decide +kernel
theorem dX12_element_50 : decode cX12_element 50 = .ok (.aload_n 0, 1) := by decide +kernel
theorem dX12_element_51 : decode cX12_element 51 = .ok (.getfield 77, 3) := by decide +kernel
theorem dX12_element_54 : decode cX12_element 54 = .ok (.invokevirtual 228, 3) := by decide +kernel
theorem dX12_element_57 : decode cX12_element 57 = .ok (.ireturn, 1) := by decide +kernel
def pX12_element (g : MT) (h : CT) (this : Nat) (p1 : Int32) (p2 : Int32) : Option ((Int32) × CT) := tg g this 11 (if (pX12_within p2 0 15) = 0 then bd2 (pX12_refuse g h this 2) fun x24 h22 => (some (x24, h22)) else bd (pX12_rowTrouble g h this p1) fun x2 => (if x2 = 0 then lt (hR h this 4) fun r5 => (nn r5 fun a5 => (tg g a5 3 (lt (hR h a5 0) fun r7 => (nn r7 fun a7 => (tg g a7 27 (ix (gL g a7) p1 (lt (hR h a7 (Int32.toNatClampNeg p1)) fun r10 => (lt (hR h this 15) fun r11 => (nn r10 fun a10 => (tg g a10 7 (nn r11 fun a11 => (bd (pX8_fetch g h a10 p2 a11) fun h13 => (lt (hR h13 this 15) fun r15 => (nn r15 fun a15 => (bd2 (pX12_tellOf g h13 this a15) fun x18 h16 => (some (x18, h16))))))))))))))))) else bd2 (pX12_refuse g h this x2) fun x21 h19 => (some (x21, h19))))
set_option maxRecDepth 10000 in
set_option maxHeartbeats 4000000 in
theorem pX12_element_ok (G : Gx) (dk : Nat) (hK : 4 ≤ dk) {g : MT} {h h0 : CT} {this : Nat} {p1 : Int32} {p2 : Int32} {r0 : Int32} (hf : pX12_element g h this p1 p2 = some (r0, h0)) : Ctr G dk yX12_element cX12_element 4 (some .int) [va_rf (some this), .int p1, .int p2] g h (some (.int r0)) g h0 := by
  refine Ctr.ofZ (lv := [(0, va_rf (some this)), (1, .int p1), (2, .int p2)]) (by decide +kernel) (by simp [cat_i, cat_l, cat_d, cat_rf]) rfl fun X Z => ?_
  unfold pX12_element at hf
  replace hf := tg_i hf
  obtain ⟨t0, hf⟩ := hf
  refine J_iload_n Z.1 2 dX12_element_0 rfl rfl ?_
  refine J_iconst Z.1 (v := 0) (by decide) dX12_element_1 ?_
  refine J_bipush Z.1 (v := 15) (by decide) dX12_element_2 ?_
  refine J_callS (as := [.int p2, .int 0, .int 15]) (rest := []) (sy := [.int (pX12_within p2 0 15)]) Z.1 dX12_element_4 cw_X12_109 (pX12_within_ok G (dk - 1) (by omega) g h p2 0 15) (zG Z) rfl (by decide) (zF Z (by omega)) (zO Z (by omega) (by decide)) (zM _) Z.2.1 Z.2.1 rfl rfl ?_
  refine J_if_ne Z.1 16 dX12_element_7 (by decide) (fun c1 => ?_) (fun c1 => ?_)
  · rw [if_neg c1] at hf
    refine J_aload_n Z.1 0 dX12_element_16 rfl rfl ?_
    refine J_iload_n Z.1 1 dX12_element_17 rfl rfl ?_
    replace hf := bd_i hf
    obtain ⟨x2, q3, hf⟩ := hf
    refine J_callV (ci := 10) (as := [.int p1]) (rest := []) (sy := [.int x2]) Z.1 dX12_element_18 cw_X12_216 (pX12_rowTrouble_ok G (dk - 1) (by omega) q3) rfl rfl t0 (zG Z) rfl (by decide) (zF Z (by omega)) (zO Z (by omega) (by decide)) (zM _) Z.2.1 Z.2.1 rfl rfl ?_
    refine J_istore_n Z.1 (lv2 := [(3, .int x2), (0, va_rf (some this)), (1, .int p1), (2, .int p2)]) dX12_element_21 rfl (zL Z (by decide)) rfl ?_
    refine J_iload_n Z.1 0 dX12_element_22 rfl rfl ?_
    refine J_if_eq Z.1 32 dX12_element_23 (by decide) (fun c4 => ?_) (fun c4 => ?_)
    · rw [if_pos c4] at hf
      refine J_aload_n Z.1 1 dX12_element_32 rfl rfl ?_
      refine J_get (v := va_rf (hR h this 4)) Z.1 dX12_element_33 fl_X12_30 t0 rfl ?_
      refine J_tr (fun r5 er5 => ?_)
      replace hf := lt_i hf r5 er5
      replace hf := nn_i hf
      obtain ⟨a5, rfl, hf⟩ := hf
      replace hf := tg_i hf
      obtain ⟨t6, hf⟩ := hf
      refine J_get (v := va_rf (hR h a5 0)) Z.1 dX12_element_36 fl_X12_219 t6 rfl ?_
      refine J_tr (fun r7 er7 => ?_)
      replace hf := lt_i hf r7 er7
      refine J_iload_n Z.1 2 dX12_element_39 rfl rfl ?_
      replace hf := nn_i hf
      obtain ⟨a7, rfl, hf⟩ := hf
      replace hf := tg_i hf
      obtain ⟨t8, hf⟩ := hf
      replace hf := ix_i hf
      obtain ⟨i9, hf⟩ := hf
      refine J_aaload (t := 7) Z.1 dX12_element_40 t8 rfl i9 ?_
      refine J_tr (fun r10 er10 => ?_)
      replace hf := lt_i hf r10 er10
      refine J_iload_n Z.1 3 dX12_element_41 rfl rfl ?_
      refine J_aload_n Z.1 1 dX12_element_42 rfl rfl ?_
      refine J_get (v := va_rf (hR h this 15)) Z.1 dX12_element_43 fl_X12_77 t0 rfl ?_
      refine J_tr (fun r11 er11 => ?_)
      replace hf := lt_i hf r11 er11
      replace hf := nn_i hf
      obtain ⟨a10, rfl, hf⟩ := hf
      replace hf := tg_i hf
      obtain ⟨t12, hf⟩ := hf
      replace hf := nn_i hf
      obtain ⟨a11, rfl, hf⟩ := hf
      replace hf := bd_i hf
      obtain ⟨h13, q14, hf⟩ := hf
      refine J_callV (ci := 6) (as := [.int p2, va_rf (some a11)]) (rest := []) (sy := []) Z.1 dX12_element_46 cw_X12_223 (pX8_fetch_ok G (dk - 1) (by omega) q14) rfl rfl t12 (zG Z) rfl (by decide) (zF Z (by omega)) (zO Z (by omega) (by decide)) (zM _) Z.2.1 Z.2.1 rfl rfl ?_
      refine J_aload_n Z.1 1 dX12_element_49 rfl rfl ?_
      refine J_aload_n Z.1 1 dX12_element_50 rfl rfl ?_
      refine J_get (v := va_rf (hR h13 this 15)) Z.1 dX12_element_51 fl_X12_77 t0 rfl ?_
      refine J_tr (fun r15 er15 => ?_)
      replace hf := lt_i hf r15 er15
      replace hf := nn_i hf
      obtain ⟨a15, rfl, hf⟩ := hf
      replace hf := bd2_i hf
      obtain ⟨x18, h16, q17, hf⟩ := hf
      refine J_callV (ci := 10) (as := [va_rf (some a15)]) (rest := []) (sy := [.int x18]) Z.1 dX12_element_54 cw_X12_228 (pX12_tellOf_ok G (dk - 1) (by omega) q17) rfl rfl t0 (zG Z) rfl (by decide) (zF Z (by omega)) (zO Z (by omega) (by decide)) (zM _) Z.2.1 Z.2.1 rfl rfl ?_
      cases hf
      exact J_iret Z.1 Z.2.2.2.2.2 dX12_element_57
    · rw [if_neg c4] at hf
      refine J_aload_n Z.1 1 dX12_element_26 rfl rfl ?_
      refine J_iload_n Z.1 0 dX12_element_27 rfl rfl ?_
      replace hf := bd2_i hf
      obtain ⟨x21, h19, q20, hf⟩ := hf
      refine J_callV (ci := 10) (as := [.int x2]) (rest := []) (sy := [.int x21]) Z.1 dX12_element_28 cw_X12_143 (pX12_refuse_ok G (dk - 1) (by omega) q20) rfl rfl t0 (zG Z) rfl (by decide) (zF Z (by omega)) (zO Z (by omega) (by decide)) (zM _) Z.2.1 Z.2.1 rfl rfl ?_
      cases hf
      exact J_iret Z.1 Z.2.2.2.2.2 dX12_element_31
  · rw [if_pos c1] at hf
    refine J_aload_n Z.1 0 dX12_element_10 rfl rfl ?_
    refine J_iconst Z.1 (v := 2) (by decide) dX12_element_11 ?_
    replace hf := bd2_i hf
    obtain ⟨x24, h22, q23, hf⟩ := hf
    refine J_callV (ci := 10) (as := [.int 2]) (rest := []) (sy := [.int x24]) Z.1 dX12_element_12 cw_X12_143 (pX12_refuse_ok G (dk - 1) (by omega) q23) rfl rfl t0 (zG Z) rfl (by decide) (zF Z (by omega)) (zO Z (by omega) (by decide)) (zM _) Z.2.1 Z.2.1 rfl rfl ?_
    cases hf
    exact J_iret Z.1 Z.2.2.2.2.2 dX12_element_15
theorem dX12_scalar_0 : decode cX12_scalar 0 = .ok (.iload_n 1, 1) := by decide +kernel
theorem dX12_scalar_1 : decode cX12_scalar 1 = .ok (.iconst 0, 1) := by decide +kernel
theorem dX12_scalar_2 : decode cX12_scalar 2 = .ok (.iconst 3, 1) := by decide +kernel
theorem dX12_scalar_3 : decode cX12_scalar 3 = .ok (.invokestatic 109, 3) := by decide +kernel
theorem dX12_scalar_6 : decode cX12_scalar 6 = .ok (.ifCond .ne 9, 3) := by decide +kernel
theorem dX12_scalar_9 : decode cX12_scalar 9 = .ok (.aload_n 0, 1) := by decide +kernel
theorem dX12_scalar_10 : decode cX12_scalar 10 = .ok (.iconst 2, 1) := by decide +kernel
theorem dX12_scalar_11 : decode cX12_scalar 11 = .ok (.invokevirtual 143, 3) := by decide +kernel
theorem dX12_scalar_14 : decode cX12_scalar 14 = .ok (.ireturn, 1) := by decide +kernel
theorem dX12_scalar_15 : decode cX12_scalar 15 = .ok (.aload_n 0, 1) := by decide +kernel
theorem dX12_scalar_16 : decode cX12_scalar 16 = .ok (.getfield 30, 3) := by decide +kernel
theorem dX12_scalar_19 : decode cX12_scalar 19 = .ok (.getfield 231, 3) := by decide +kernel
theorem dX12_scalar_22 : decode cX12_scalar 22 = .ok (.iload_n 1, 1) := by decide +kernel
theorem dX12_scalar_23 : decode cX12_scalar 23 = .ok (.aload_n 0, 1) := by decide +kernel
theorem dX12_scalar_24 : decode cX12_scalar 24 = .ok (.getfield 77, 3) := by decide +kernel
theorem dX12_scalar_27 : decode cX12_scalar 27 = .ok (.invokevirtual 223, 3) := by decide +kernel
theorem dX12_scalar_30 : decode cX12_scalar 30 = .ok (.aload_n 0, 1) := by decide +kernel
theorem dX12_scalar_31 : decode cX12_scalar 31 = .ok (.aload_n 0, 1) := by decide +kernel
theorem dX12_scalar_32 : decode cX12_scalar 32 = .ok (.getfield 77, 3) := by decide +kernel
theorem dX12_scalar_35 : decode cX12_scalar 35 = .ok (.invokevirtual 228, 3) := by decide +kernel
theorem dX12_scalar_38 : decode cX12_scalar 38 = .ok (.ireturn, 1) := by decide +kernel
def pX12_scalar (g : MT) (h : CT) (this : Nat) (p1 : Int32) : Option ((Int32) × CT) := tg g this 11 (if (pX12_within p1 0 3) = 0 then bd2 (pX12_refuse g h this 2) fun x15 h13 => (some (x15, h13)) else lt (hR h this 4) fun r2 => (nn r2 fun a2 => (tg g a2 3 (lt (hR h a2 2) fun r4 => (lt (hR h this 15) fun r5 => (nn r4 fun a4 => (tg g a4 7 (nn r5 fun a5 => (bd (pX8_fetch g h a4 p1 a5) fun h7 => (lt (hR h7 this 15) fun r9 => (nn r9 fun a9 => (bd2 (pX12_tellOf g h7 this a9) fun x12 h10 => (some (x12, h10))))))))))))))
set_option maxRecDepth 10000 in
set_option maxHeartbeats 4000000 in
theorem pX12_scalar_ok (G : Gx) (dk : Nat) (hK : 4 ≤ dk) {g : MT} {h h0 : CT} {this : Nat} {p1 : Int32} {r0 : Int32} (hf : pX12_scalar g h this p1 = some (r0, h0)) : Ctr G dk yX12_scalar cX12_scalar 2 (some .int) [va_rf (some this), .int p1] g h (some (.int r0)) g h0 := by
  refine Ctr.ofZ (lv := [(0, va_rf (some this)), (1, .int p1)]) (by decide +kernel) (by simp [cat_i, cat_l, cat_d, cat_rf]) rfl fun X Z => ?_
  unfold pX12_scalar at hf
  replace hf := tg_i hf
  obtain ⟨t0, hf⟩ := hf
  refine J_iload_n Z.1 1 dX12_scalar_0 rfl rfl ?_
  refine J_iconst Z.1 (v := 0) (by decide) dX12_scalar_1 ?_
  refine J_iconst Z.1 (v := 3) (by decide) dX12_scalar_2 ?_
  refine J_callS (as := [.int p1, .int 0, .int 3]) (rest := []) (sy := [.int (pX12_within p1 0 3)]) Z.1 dX12_scalar_3 cw_X12_109 (pX12_within_ok G (dk - 1) (by omega) g h p1 0 3) (zG Z) rfl (by decide) (zF Z (by omega)) (zO Z (by omega) (by decide)) (zM _) Z.2.1 Z.2.1 rfl rfl ?_
  refine J_if_ne Z.1 15 dX12_scalar_6 (by decide) (fun c1 => ?_) (fun c1 => ?_)
  · rw [if_neg c1] at hf
    refine J_aload_n Z.1 0 dX12_scalar_15 rfl rfl ?_
    refine J_get (v := va_rf (hR h this 4)) Z.1 dX12_scalar_16 fl_X12_30 t0 rfl ?_
    refine J_tr (fun r2 er2 => ?_)
    replace hf := lt_i hf r2 er2
    replace hf := nn_i hf
    obtain ⟨a2, rfl, hf⟩ := hf
    replace hf := tg_i hf
    obtain ⟨t3, hf⟩ := hf
    refine J_get (v := va_rf (hR h a2 2)) Z.1 dX12_scalar_19 fl_X12_231 t3 rfl ?_
    refine J_tr (fun r4 er4 => ?_)
    replace hf := lt_i hf r4 er4
    refine J_iload_n Z.1 1 dX12_scalar_22 rfl rfl ?_
    refine J_aload_n Z.1 0 dX12_scalar_23 rfl rfl ?_
    refine J_get (v := va_rf (hR h this 15)) Z.1 dX12_scalar_24 fl_X12_77 t0 rfl ?_
    refine J_tr (fun r5 er5 => ?_)
    replace hf := lt_i hf r5 er5
    replace hf := nn_i hf
    obtain ⟨a4, rfl, hf⟩ := hf
    replace hf := tg_i hf
    obtain ⟨t6, hf⟩ := hf
    replace hf := nn_i hf
    obtain ⟨a5, rfl, hf⟩ := hf
    replace hf := bd_i hf
    obtain ⟨h7, q8, hf⟩ := hf
    refine J_callV (ci := 6) (as := [.int p1, va_rf (some a5)]) (rest := []) (sy := []) Z.1 dX12_scalar_27 cw_X12_223 (pX8_fetch_ok G (dk - 1) (by omega) q8) rfl rfl t6 (zG Z) rfl (by decide) (zF Z (by omega)) (zO Z (by omega) (by decide)) (zM _) Z.2.1 Z.2.1 rfl rfl ?_
    refine J_aload_n Z.1 0 dX12_scalar_30 rfl rfl ?_
    refine J_aload_n Z.1 0 dX12_scalar_31 rfl rfl ?_
    refine J_get (v := va_rf (hR h7 this 15)) Z.1 dX12_scalar_32 fl_X12_77 t0 rfl ?_
    refine J_tr (fun r9 er9 => ?_)
    replace hf := lt_i hf r9 er9
    replace hf := nn_i hf
    obtain ⟨a9, rfl, hf⟩ := hf
    replace hf := bd2_i hf
    obtain ⟨x12, h10, q11, hf⟩ := hf
    refine J_callV (ci := 10) (as := [va_rf (some a9)]) (rest := []) (sy := [.int x12]) Z.1 dX12_scalar_35 cw_X12_228 (pX12_tellOf_ok G (dk - 1) (by omega) q11) rfl rfl t0 (zG Z) rfl (by decide) (zF Z (by omega)) (zO Z (by omega) (by decide)) (zM _) Z.2.1 Z.2.1 rfl rfl ?_
    cases hf
    exact J_iret Z.1 Z.2.2.2.2.2 dX12_scalar_38
  · rw [if_pos c1] at hf
    refine J_aload_n Z.1 0 dX12_scalar_9 rfl rfl ?_
    refine J_iconst Z.1 (v := 2) (by decide) dX12_scalar_10 ?_
    replace hf := bd2_i hf
    obtain ⟨x15, h13, q14, hf⟩ := hf
    refine J_callV (ci := 10) (as := [.int 2]) (rest := []) (sy := [.int x15]) Z.1 dX12_scalar_11 cw_X12_143 (pX12_refuse_ok G (dk - 1) (by omega) q14) rfl rfl t0 (zG Z) rfl (by decide) (zF Z (by omega)) (zO Z (by omega) (by decide)) (zM _) Z.2.1 Z.2.1 rfl rfl ?_
    cases hf
    exact J_iret Z.1 Z.2.2.2.2.2 dX12_scalar_14
theorem dX12_word_0 : decode cX12_word 0 = .ok (.iload_n 1, 1) := by decide +kernel
theorem dX12_word_1 : decode cX12_word 1 = .ok (.invokestatic 235, 3) := by decide +kernel
theorem dX12_word_4 : decode cX12_word 4 = .ok (.ifCond .ne 9, 3) := by decide +kernel
theorem dX12_word_7 : decode cX12_word 7 = .ok (.aload_n 0, 1) := by decide +kernel
theorem dX12_word_8 : decode cX12_word 8 = .ok (.iconst 2, 1) := by decide +kernel
theorem dX12_word_9 : decode cX12_word 9 = .ok (.invokevirtual 143, 3) := by decide +kernel
theorem dX12_word_12 : decode cX12_word 12 = .ok (.ireturn, 1) := by decide +kernel
theorem dX12_word_13 : decode cX12_word 13 = .ok (.aload_n 0, 1) := by decide +kernel
theorem dX12_word_14 : decode cX12_word 14 = .ok (.getfield 30, 3) := by decide +kernel
theorem dX12_word_17 : decode cX12_word 17 = .ok (.getfield 238, 3) := by decide +kernel
theorem dX12_word_20 : decode cX12_word 20 = .ok (.iload_n 1, 1) := by decide +kernel
theorem dX12_word_21 : decode cX12_word 21 = .ok (.aload_n 0, 1) := by decide +kernel
theorem dX12_word_22 : decode cX12_word 22 = .ok (.getfield 77, 3) := by decide +kernel
theorem dX12_word_25 : decode cX12_word 25 = .ok (.invokevirtual 223, 3) := by decide +kernel
theorem dX12_word_28 : decode cX12_word 28 = .ok (.aload_n 0, 1) := by decide +kernel
theorem dX12_word_29 : decode cX12_word 29 = .ok (.aload_n 0, 1) := by decide +kernel
theorem dX12_word_30 : decode cX12_word 30 = .ok (.getfield 77, 3) := by decide +kernel
theorem dX12_word_33 : decode cX12_word 33 = .ok (.invokevirtual 228, 3) := by decide +kernel
theorem dX12_word_36 : decode cX12_word 36 = .ok (.ireturn, 1) := by decide +kernel
def pX12_word (g : MT) (h : CT) (this : Nat) (p1 : Int32) : Option ((Int32) × CT) := tg g this 11 (if (pX12_isWord p1) = 0 then bd2 (pX12_refuse g h this 2) fun x15 h13 => (some (x15, h13)) else lt (hR h this 4) fun r2 => (nn r2 fun a2 => (tg g a2 3 (lt (hR h a2 3) fun r4 => (lt (hR h this 15) fun r5 => (nn r4 fun a4 => (tg g a4 7 (nn r5 fun a5 => (bd (pX8_fetch g h a4 p1 a5) fun h7 => (lt (hR h7 this 15) fun r9 => (nn r9 fun a9 => (bd2 (pX12_tellOf g h7 this a9) fun x12 h10 => (some (x12, h10))))))))))))))
set_option maxRecDepth 10000 in
set_option maxHeartbeats 4000000 in
theorem pX12_word_ok (G : Gx) (dk : Nat) (hK : 4 ≤ dk) {g : MT} {h h0 : CT} {this : Nat} {p1 : Int32} {r0 : Int32} (hf : pX12_word g h this p1 = some (r0, h0)) : Ctr G dk yX12_word cX12_word 2 (some .int) [va_rf (some this), .int p1] g h (some (.int r0)) g h0 := by
  refine Ctr.ofZ (lv := [(0, va_rf (some this)), (1, .int p1)]) (by decide +kernel) (by simp [cat_i, cat_l, cat_d, cat_rf]) rfl fun X Z => ?_
  unfold pX12_word at hf
  replace hf := tg_i hf
  obtain ⟨t0, hf⟩ := hf
  refine J_iload_n Z.1 1 dX12_word_0 rfl rfl ?_
  refine J_callS (as := [.int p1]) (rest := []) (sy := [.int (pX12_isWord p1)]) Z.1 dX12_word_1 cw_X12_235 (pX12_isWord_ok G (dk - 1) (by omega) g h p1) (zG Z) rfl (by decide) (zF Z (by omega)) (zO Z (by omega) (by decide)) (zM _) Z.2.1 Z.2.1 rfl rfl ?_
  refine J_if_ne Z.1 13 dX12_word_4 (by decide) (fun c1 => ?_) (fun c1 => ?_)
  · rw [if_neg c1] at hf
    refine J_aload_n Z.1 0 dX12_word_13 rfl rfl ?_
    refine J_get (v := va_rf (hR h this 4)) Z.1 dX12_word_14 fl_X12_30 t0 rfl ?_
    refine J_tr (fun r2 er2 => ?_)
    replace hf := lt_i hf r2 er2
    replace hf := nn_i hf
    obtain ⟨a2, rfl, hf⟩ := hf
    replace hf := tg_i hf
    obtain ⟨t3, hf⟩ := hf
    refine J_get (v := va_rf (hR h a2 3)) Z.1 dX12_word_17 fl_X12_238 t3 rfl ?_
    refine J_tr (fun r4 er4 => ?_)
    replace hf := lt_i hf r4 er4
    refine J_iload_n Z.1 1 dX12_word_20 rfl rfl ?_
    refine J_aload_n Z.1 0 dX12_word_21 rfl rfl ?_
    refine J_get (v := va_rf (hR h this 15)) Z.1 dX12_word_22 fl_X12_77 t0 rfl ?_
    refine J_tr (fun r5 er5 => ?_)
    replace hf := lt_i hf r5 er5
    replace hf := nn_i hf
    obtain ⟨a4, rfl, hf⟩ := hf
    replace hf := tg_i hf
    obtain ⟨t6, hf⟩ := hf
    replace hf := nn_i hf
    obtain ⟨a5, rfl, hf⟩ := hf
    replace hf := bd_i hf
    obtain ⟨h7, q8, hf⟩ := hf
    refine J_callV (ci := 6) (as := [.int p1, va_rf (some a5)]) (rest := []) (sy := []) Z.1 dX12_word_25 cw_X12_223 (pX8_fetch_ok G (dk - 1) (by omega) q8) rfl rfl t6 (zG Z) rfl (by decide) (zF Z (by omega)) (zO Z (by omega) (by decide)) (zM _) Z.2.1 Z.2.1 rfl rfl ?_
    refine J_aload_n Z.1 0 dX12_word_28 rfl rfl ?_
    refine J_aload_n Z.1 0 dX12_word_29 rfl rfl ?_
    refine J_get (v := va_rf (hR h7 this 15)) Z.1 dX12_word_30 fl_X12_77 t0 rfl ?_
    refine J_tr (fun r9 er9 => ?_)
    replace hf := lt_i hf r9 er9
    replace hf := nn_i hf
    obtain ⟨a9, rfl, hf⟩ := hf
    replace hf := bd2_i hf
    obtain ⟨x12, h10, q11, hf⟩ := hf
    refine J_callV (ci := 10) (as := [va_rf (some a9)]) (rest := []) (sy := [.int x12]) Z.1 dX12_word_33 cw_X12_228 (pX12_tellOf_ok G (dk - 1) (by omega) q11) rfl rfl t0 (zG Z) rfl (by decide) (zF Z (by omega)) (zO Z (by omega) (by decide)) (zM _) Z.2.1 Z.2.1 rfl rfl ?_
    cases hf
    exact J_iret Z.1 Z.2.2.2.2.2 dX12_word_36
  · rw [if_pos c1] at hf
    refine J_aload_n Z.1 0 dX12_word_7 rfl rfl ?_
    refine J_iconst Z.1 (v := 2) (by decide) dX12_word_8 ?_
    replace hf := bd2_i hf
    obtain ⟨x15, h13, q14, hf⟩ := hf
    refine J_callV (ci := 10) (as := [.int 2]) (rest := []) (sy := [.int x15]) Z.1 dX12_word_9 cw_X12_143 (pX12_refuse_ok G (dk - 1) (by omega) q14) rfl rfl t0 (zG Z) rfl (by decide) (zF Z (by omega)) (zO Z (by omega) (by decide)) (zM _) Z.2.1 Z.2.1 rfl rfl ?_
    cases hf
    exact J_iret Z.1 Z.2.2.2.2.2 dX12_word_12
theorem dX12_put_0 : decode cX12_put 0 = .ok (.iload_n 1, 1) := by decide +kernel
theorem dX12_put_1 : decode cX12_put 1 = .ok (.iconst 0, 1) := by decide +kernel
theorem dX12_put_2 : decode cX12_put 2 = .ok (.iconst 5, 1) := by decide +kernel
theorem dX12_put_3 : decode cX12_put 3 = .ok (.invokestatic 109, 3) := by decide +kernel
theorem dX12_put_6 : decode cX12_put 6 = .ok (.ifCond .eq 13, 3) := by decide +kernel
theorem dX12_put_9 : decode cX12_put 9 = .ok (.iload_n 2, 1) := by decide +kernel
theorem dX12_put_10 : decode cX12_put 10 = .ok (.iconst 0, 1) := by decide +kernel
theorem dX12_put_11 : decode cX12_put 11 = .ok (.bipush 15, 2) := by decide +kernel
theorem dX12_put_13 : decode cX12_put 13 = .ok (.invokestatic 109, 3) := by decide +kernel
theorem dX12_put_16 : decode cX12_put 16 = .ok (.ifCond .ne 9, 3) := by decide +kernel
theorem dX12_put_19 : decode cX12_put 19 = .ok (.aload_n 0, 1) := by decide +kernel
theorem dX12_put_20 : decode cX12_put 20 = .ok (.iconst 2, 1) := by decide +kernel
theorem dX12_put_21 : decode cX12_put 21 = .ok (.invokevirtual 143, 3) := by decide +kernel
theorem dX12_put_24 : decode cX12_put 24 = .ok (.ireturn, 1) := by decide +kernel
theorem dX12_put_25 : decode cX12_put 25 = .ok (.lload_n 3, 1) := by decide +kernel
theorem dX12_put_26 : decode cX12_put 26 = .ok (.iload 5, 2) := by decide +kernel
theorem dX12_put_28 : decode cX12_put 28 = .ok (.invokestatic 241, 3) := by decide +kernel
theorem dX12_put_31 : decode cX12_put 31 = .ok (.ifCond .ne 9, 3) := by decide +kernel
theorem dX12_put_34 : decode cX12_put 34 = .ok (.aload_n 0, 1) := by decide +kernel
theorem dX12_put_35 : decode cX12_put 35 = .ok (.iconst 5, 1) := by decide +kernel
theorem dX12_put_36 : decode cX12_put 36 = .ok (.invokevirtual 143, 3) := by decide +kernel
theorem dX12_put_39 : decode cX12_put 39 = .ok (.ireturn, 1) := by decide +kernel
theorem dX12_put_40 : decode cX12_put 40 = .ok (.aload_n 0, 1) := by decide +kernel
theorem dX12_put_41 : decode cX12_put 41 = .ok (.getfield 77, 3) := by decide +kernel
theorem dX12_put_44 : decode cX12_put 44 = .ok (.aload_n 0, 1) := by decide +kernel
theorem dX12_put_45 : decode cX12_put 45 = .ok (.getfield 41, 3) := by decide +kernel
theorem dX12_put_48 : decode cX12_put 48 = .ok (.lload_n 3, 1) := by decide +kernel
theorem dX12_put_49 : decode cX12_put 49 = .ok (.iload 5, 2) := by decide +kernel
theorem dX12_put_51 : decode cX12_put 51 = .ok (.invokevirtual 245, 3) := by decide +kernel
theorem dX12_put_54 : decode cX12_put 54 = .ok (.invokevirtual 249, 3) := by decide +kernel
theorem dX12_put_57 : decode cX12_put 57 = .ok (.aload_n 0, 1) := by decide +kernel
theorem dX12_put_58 : decode cX12_put 58 = .ok (.getfield 30, 3) := by decide +kernel
theorem dX12_put_61 : decode cX12_put 61 = .ok (.iload_n 1, 1) := by decide +kernel
theorem dX12_put_62 : decode cX12_put 62 = .ok (.iload_n 2, 1) := by decide +kernel
theorem dX12_put_63 : decode cX12_put 63 = .ok (.aload_n 0, 1) := by decide +kernel
theorem dX12_put_64 : decode cX12_put 64 = .ok (.getfield 77, 3) := by decide +kernel
theorem dX12_put_67 : decode cX12_put 67 = .ok (.invokevirtual 253, 3) := by decide +kernel
theorem dX12_put_70 : decode cX12_put 70 = .ok (.aload_n 0, 1) := by decide +kernel
theorem dX12_put_71 : decode cX12_put 71 = .ok (.aload_n 0, 1) := by decide +kernel
theorem dX12_put_72 : decode cX12_put 72 = .ok (.getfield 77, 3) := by decide +kernel
theorem dX12_put_75 : decode cX12_put 75 = .ok (.invokevirtual 228, 3) := by decide +kernel
theorem dX12_put_78 : decode cX12_put 78 = .ok (.ireturn, 1) := by decide +kernel
def pX12_put_b19 (g : MT) (this : Nat) (p1 : Int32) (p2 : Int32) (p3 : Int64) (p5 : Int32) (h : CT) : Option ((Int32) × CT) := bd2 (pX12_refuse g h this 2) fun x3 h1 => (some (x3, h1))
set_option maxRecDepth 10000 in
set_option maxHeartbeats 4000000 in
theorem pX12_put_b19_ok {X : Cx} {G : Gx} {dk : Nat} {g : MT} {r0 : Int32} {h0 : CT} {this : Nat} {p1 : Int32} {p2 : Int32} {p3 : Int64} {p5 : Int32} (Z : Zx X G cX12_put RX12 6 dk (some .int) (some (.int r0)) g h0) (hK : 4 ≤ dk) (t0 : gT g this = 11) (h : CT) (hf : pX12_put_b19 g this p1 p2 p3 p5 h = some (r0, h0)) : J X g h 19 [(0, va_rf (some this))] [] := by
  unfold pX12_put_b19 at hf
  refine J_aload_n Z.1 0 dX12_put_19 rfl rfl ?_
  refine J_iconst Z.1 (v := 2) (by decide) dX12_put_20 ?_
  replace hf := bd2_i hf
  obtain ⟨x3, h1, q2, hf⟩ := hf
  refine J_callV (ci := 10) (as := [.int 2]) (rest := []) (sy := [.int x3]) Z.1 dX12_put_21 cw_X12_143 (pX12_refuse_ok G (dk - 1) (by omega) q2) rfl rfl t0 (zG Z) rfl (by decide) (zF Z (by omega)) (zO Z (by omega) (by decide)) (zM _) Z.2.1 Z.2.1 rfl rfl ?_
  cases hf
  exact J_iret Z.1 Z.2.2.2.2.2 dX12_put_24
def pX12_put (g : MT) (h : CT) (this : Nat) (p1 : Int32) (p2 : Int32) (p3 : Int64) (p5 : Int32) : Option ((Int32) × CT) := tg g this 11 (if (pX12_within p1 0 5) = 0 then pX12_put_b19 g this p1 p2 p3 p5  h else if (pX12_within p2 0 15) = 0 then pX12_put_b19 g this p1 p2 p3 p5  h else if (pX12_isNumber p3 p5) = 0 then bd2 (pX12_refuse g h this 5) fun x23 h21 => (some (x23, h21)) else lt (hR h this 15) fun r4 => (lt (hR h this 14) fun r5 => (nn r5 fun a5 => (tg g a5 1 (bd (pX1_join g h a5 p3 p5) fun x7 => (nn r4 fun a4 => (tg g a4 4 (bd (pX4_set g h a4 x7) fun h10 => (lt (hR h10 this 4) fun r12 => (lt (hR h10 this 15) fun r13 => (nn r12 fun a12 => (tg g a12 3 (nn r13 fun a13 => (bd (pX3_land g h10 a12 p1 p2 a13) fun h15 => (lt (hR h15 this 15) fun r17 => (nn r17 fun a17 => (bd2 (pX12_tellOf g h15 this a17) fun x20 h18 => (some (x20, h18)))))))))))))))))))
set_option maxRecDepth 10000 in
set_option maxHeartbeats 4000000 in
theorem pX12_put_ok (G : Gx) (dk : Nat) (hK : 4 ≤ dk) {g : MT} {h h0 : CT} {this : Nat} {p1 : Int32} {p2 : Int32} {p3 : Int64} {p5 : Int32} {r0 : Int32} (hf : pX12_put g h this p1 p2 p3 p5 = some (r0, h0)) : Ctr G dk yX12_put cX12_put 6 (some .int) [va_rf (some this), .int p1, .int p2, .long p3, .int p5] g h (some (.int r0)) g h0 := by
  refine Ctr.ofZ (lv := [(0, va_rf (some this)), (1, .int p1), (2, .int p2), (3, .long p3), (5, .int p5)]) (by decide +kernel) (by simp [cat_i, cat_l, cat_d, cat_rf]) rfl fun X Z => ?_
  unfold pX12_put at hf
  replace hf := tg_i hf
  obtain ⟨t0, hf⟩ := hf
  refine J_iload_n Z.1 1 dX12_put_0 rfl rfl ?_
  refine J_iconst Z.1 (v := 0) (by decide) dX12_put_1 ?_
  refine J_iconst Z.1 (v := 5) (by decide) dX12_put_2 ?_
  refine J_callS (as := [.int p1, .int 0, .int 5]) (rest := []) (sy := [.int (pX12_within p1 0 5)]) Z.1 dX12_put_3 cw_X12_109 (pX12_within_ok G (dk - 1) (by omega) g h p1 0 5) (zG Z) rfl (by decide) (zF Z (by omega)) (zO Z (by omega) (by decide)) (zM _) Z.2.1 Z.2.1 rfl rfl ?_
  refine J_if_eq Z.1 19 dX12_put_6 (by decide) (fun c1 => ?_) (fun c1 => ?_)
  · rw [if_pos c1] at hf
    refine J_lv [0] rfl ?_
    exact pX12_put_b19_ok Z hK t0  _ hf
  · rw [if_neg c1] at hf
    refine J_iload_n Z.1 2 dX12_put_9 rfl rfl ?_
    refine J_iconst Z.1 (v := 0) (by decide) dX12_put_10 ?_
    refine J_bipush Z.1 (v := 15) (by decide) dX12_put_11 ?_
    refine J_callS (as := [.int p2, .int 0, .int 15]) (rest := []) (sy := [.int (pX12_within p2 0 15)]) Z.1 dX12_put_13 cw_X12_109 (pX12_within_ok G (dk - 1) (by omega) g h p2 0 15) (zG Z) rfl (by decide) (zF Z (by omega)) (zO Z (by omega) (by decide)) (zM _) Z.2.1 Z.2.1 rfl rfl ?_
    refine J_if_ne Z.1 25 dX12_put_16 (by decide) (fun c2 => ?_) (fun c2 => ?_)
    · rw [if_neg c2] at hf
      refine J_lload_n Z.1 3 dX12_put_25 rfl rfl ?_
      refine J_iload Z.1 4 dX12_put_26 rfl ?_
      refine J_callS (as := [.long p3, .int p5]) (rest := []) (sy := [.int (pX12_isNumber p3 p5)]) Z.1 dX12_put_28 cw_X12_241 (pX12_isNumber_ok G (dk - 1) (by omega) g h p3 p5) (zG Z) rfl (by decide) (zF Z (by omega)) (zO Z (by omega) (by decide)) (zM _) Z.2.1 Z.2.1 rfl rfl ?_
      refine J_if_ne Z.1 40 dX12_put_31 (by decide) (fun c3 => ?_) (fun c3 => ?_)
      · rw [if_neg c3] at hf
        refine J_aload_n Z.1 0 dX12_put_40 rfl rfl ?_
        refine J_get (v := va_rf (hR h this 15)) Z.1 dX12_put_41 fl_X12_77 t0 rfl ?_
        refine J_tr (fun r4 er4 => ?_)
        replace hf := lt_i hf r4 er4
        refine J_aload_n Z.1 0 dX12_put_44 rfl rfl ?_
        refine J_get (v := va_rf (hR h this 14)) Z.1 dX12_put_45 fl_X12_41 t0 rfl ?_
        refine J_tr (fun r5 er5 => ?_)
        replace hf := lt_i hf r5 er5
        refine J_lload_n Z.1 3 dX12_put_48 rfl rfl ?_
        refine J_iload Z.1 4 dX12_put_49 rfl ?_
        replace hf := nn_i hf
        obtain ⟨a5, rfl, hf⟩ := hf
        replace hf := tg_i hf
        obtain ⟨t6, hf⟩ := hf
        replace hf := bd_i hf
        obtain ⟨x7, q8, hf⟩ := hf
        refine J_callV (ci := 0) (as := [.long p3, .int p5]) (rest := [va_rf r4]) (sy := [.double x7, va_rf r4]) Z.1 dX12_put_51 cw_X12_245 (pX1_join_ok G (dk - 1) (by omega) q8) rfl rfl t6 (zG Z) rfl (by simp [cat_i, cat_l, cat_d, cat_rf]) (zF Z (by omega)) (zO Z (by omega) (by decide)) (zM _) Z.2.1 Z.2.1 rfl rfl ?_
        replace hf := nn_i hf
        obtain ⟨a4, rfl, hf⟩ := hf
        replace hf := tg_i hf
        obtain ⟨t9, hf⟩ := hf
        replace hf := bd_i hf
        obtain ⟨h10, q11, hf⟩ := hf
        refine J_callV (ci := 3) (as := [.double x7]) (rest := []) (sy := []) Z.1 dX12_put_54 cw_X12_249 (pX4_set_ok G (dk - 1) (by omega) q11) rfl rfl t9 (zG Z) rfl (by decide) (zF Z (by omega)) (zO Z (by omega) (by decide)) (zM _) Z.2.1 Z.2.1 rfl rfl ?_
        refine J_aload_n Z.1 0 dX12_put_57 rfl rfl ?_
        refine J_get (v := va_rf (hR h10 this 4)) Z.1 dX12_put_58 fl_X12_30 t0 rfl ?_
        refine J_tr (fun r12 er12 => ?_)
        replace hf := lt_i hf r12 er12
        refine J_iload_n Z.1 1 dX12_put_61 rfl rfl ?_
        refine J_iload_n Z.1 2 dX12_put_62 rfl rfl ?_
        refine J_aload_n Z.1 0 dX12_put_63 rfl rfl ?_
        refine J_get (v := va_rf (hR h10 this 15)) Z.1 dX12_put_64 fl_X12_77 t0 rfl ?_
        refine J_tr (fun r13 er13 => ?_)
        replace hf := lt_i hf r13 er13
        replace hf := nn_i hf
        obtain ⟨a12, rfl, hf⟩ := hf
        replace hf := tg_i hf
        obtain ⟨t14, hf⟩ := hf
        replace hf := nn_i hf
        obtain ⟨a13, rfl, hf⟩ := hf
        replace hf := bd_i hf
        obtain ⟨h15, q16, hf⟩ := hf
        refine J_callV (ci := 2) (as := [.int p1, .int p2, va_rf (some a13)]) (rest := []) (sy := []) Z.1 dX12_put_67 cw_X12_253 (pX3_land_ok G (dk - 1) (by omega) q16) rfl rfl t14 (zG Z) rfl (by decide) (zF Z (by omega)) (zO Z (by omega) (by decide)) (zM _) Z.2.1 Z.2.1 rfl rfl ?_
        refine J_aload_n Z.1 0 dX12_put_70 rfl rfl ?_
        refine J_aload_n Z.1 0 dX12_put_71 rfl rfl ?_
        refine J_get (v := va_rf (hR h15 this 15)) Z.1 dX12_put_72 fl_X12_77 t0 rfl ?_
        refine J_tr (fun r17 er17 => ?_)
        replace hf := lt_i hf r17 er17
        replace hf := nn_i hf
        obtain ⟨a17, rfl, hf⟩ := hf
        replace hf := bd2_i hf
        obtain ⟨x20, h18, q19, hf⟩ := hf
        refine J_callV (ci := 10) (as := [va_rf (some a17)]) (rest := []) (sy := [.int x20]) Z.1 dX12_put_75 cw_X12_228 (pX12_tellOf_ok G (dk - 1) (by omega) q19) rfl rfl t0 (zG Z) rfl (by decide) (zF Z (by omega)) (zO Z (by omega) (by decide)) (zM _) Z.2.1 Z.2.1 rfl rfl ?_
        cases hf
        exact J_iret Z.1 Z.2.2.2.2.2 dX12_put_78
      · rw [if_pos c3] at hf
        refine J_aload_n Z.1 0 dX12_put_34 rfl rfl ?_
        refine J_iconst Z.1 (v := 5) (by decide) dX12_put_35 ?_
        replace hf := bd2_i hf
        obtain ⟨x23, h21, q22, hf⟩ := hf
        refine J_callV (ci := 10) (as := [.int 5]) (rest := []) (sy := [.int x23]) Z.1 dX12_put_36 cw_X12_143 (pX12_refuse_ok G (dk - 1) (by omega) q22) rfl rfl t0 (zG Z) rfl (by decide) (zF Z (by omega)) (zO Z (by omega) (by decide)) (zM _) Z.2.1 Z.2.1 rfl rfl ?_
        cases hf
        exact J_iret Z.1 Z.2.2.2.2.2 dX12_put_39
    · rw [if_pos c2] at hf
      refine J_lv [0] rfl ?_
      exact pX12_put_b19_ok Z hK t0  _ hf
theorem dX12_placeNumber_0 : decode cX12_placeNumber 0 = .ok (.lload_n 3, 1) := by decide +kernel
theorem dX12_placeNumber_1 : decode cX12_placeNumber 1 = .ok (.iload 5, 2) := by decide +kernel
theorem dX12_placeNumber_3 : decode cX12_placeNumber 3 = .ok (.invokestatic 241, 3) := by decide +kernel
theorem dX12_placeNumber_6 : decode cX12_placeNumber 6 = .ok (.ifCond .ne 9, 3) := by decide +kernel
theorem dX12_placeNumber_9 : decode cX12_placeNumber 9 = .ok (.aload_n 0, 1) := by decide +kernel
theorem dX12_placeNumber_10 : decode cX12_placeNumber 10 = .ok (.iconst 5, 1) := by decide +kernel
theorem dX12_placeNumber_11 : decode cX12_placeNumber 11 = .ok (.invokevirtual 143, 3) := by decide +kernel
theorem dX12_placeNumber_14 : decode cX12_placeNumber 14 = .ok (.ireturn, 1) := by decide +kernel
theorem dX12_placeNumber_15 : decode cX12_placeNumber 15 = .ok (.aload_n 0, 1) := by decide +kernel
theorem dX12_placeNumber_16 : decode cX12_placeNumber 16 = .ok (.getfield 77, 3) := by decide +kernel
theorem dX12_placeNumber_19 : decode cX12_placeNumber 19 = .ok (.aload_n 0, 1) := by decide +kernel
theorem dX12_placeNumber_20 : decode cX12_placeNumber 20 = .ok (.getfield 41, 3) := by decide +kernel
theorem dX12_placeNumber_23 : decode cX12_placeNumber 23 = .ok (.lload_n 3, 1) := by decide +kernel
theorem dX12_placeNumber_24 : decode cX12_placeNumber 24 = .ok (.iload 5, 2) := by decide +kernel
theorem dX12_placeNumber_26 : decode cX12_placeNumber 26 = .ok (.invokevirtual 245, 3) := by decide +kernel
theorem dX12_placeNumber_29 : decode cX12_placeNumber 29 = .ok (.invokevirtual 249, 3) := by decide +kernel
theorem dX12_placeNumber_32 : decode cX12_placeNumber 32 = .ok (.aload_n 1, 1) := by decide +kernel
theorem dX12_placeNumber_33 : decode cX12_placeNumber 33 = .ok (.iload_n 2, 1) := by decide +kernel
theorem dX12_placeNumber_34 : decode cX12_placeNumber 34 = .ok (.aload_n 0, 1) := by decide +kernel
theorem dX12_placeNumber_35 : decode cX12_placeNumber 35 = .ok (.getfield 77, 3) := by decide +kernel
theorem dX12_placeNumber_38 : decode cX12_placeNumber 38 = .ok (.invokevirtual 261, 3) := by decide +kernel
theorem dX12_placeNumber_41 : decode cX12_placeNumber 41 = .ok (.aload_n 0, 1) := by decide +kernel
theorem dX12_placeNumber_42 : decode cX12_placeNumber 42 = .ok (.aload_n 0, 1) := by decide +kernel
theorem dX12_placeNumber_43 : decode cX12_placeNumber 43 = .ok (.getfield 77, 3) := by decide +kernel
theorem dX12_placeNumber_46 : decode cX12_placeNumber 46 = .ok (.invokevirtual 228, 3) := by decide +kernel
theorem dX12_placeNumber_49 : decode cX12_placeNumber 49 = .ok (.ireturn, 1) := by decide +kernel
def pX12_placeNumber (g : MT) (h : CT) (this : Nat) (p1 : Nat) (p2 : Int32) (p3 : Int64) (p5 : Int32) : Option ((Int32) × CT) := tg g this 11 (if (pX12_isNumber p3 p5) = 0 then bd2 (pX12_refuse g h this 5) fun x20 h18 => (some (x20, h18)) else lt (hR h this 15) fun r2 => (lt (hR h this 14) fun r3 => (nn r3 fun a3 => (tg g a3 1 (bd (pX1_join g h a3 p3 p5) fun x5 => (nn r2 fun a2 => (tg g a2 4 (bd (pX4_set g h a2 x5) fun h8 => (lt (hR h8 this 15) fun r10 => (tg g p1 7 (nn r10 fun a10 => (bd (pX8_keep g h8 p1 p2 a10) fun h12 => (lt (hR h12 this 15) fun r14 => (nn r14 fun a14 => (bd2 (pX12_tellOf g h12 this a14) fun x17 h15 => (some (x17, h15)))))))))))))))))
set_option maxRecDepth 10000 in
set_option maxHeartbeats 4000000 in
theorem pX12_placeNumber_ok (G : Gx) (dk : Nat) (hK : 4 ≤ dk) {g : MT} {h h0 : CT} {this : Nat} {p1 : Nat} {p2 : Int32} {p3 : Int64} {p5 : Int32} {r0 : Int32} (hf : pX12_placeNumber g h this p1 p2 p3 p5 = some (r0, h0)) : Ctr G dk yX12_placeNumber cX12_placeNumber 6 (some .int) [va_rf (some this), va_rf (some p1), .int p2, .long p3, .int p5] g h (some (.int r0)) g h0 := by
  refine Ctr.ofZ (lv := [(0, va_rf (some this)), (1, va_rf (some p1)), (2, .int p2), (3, .long p3), (5, .int p5)]) (by decide +kernel) (by simp [cat_i, cat_l, cat_d, cat_rf]) rfl fun X Z => ?_
  unfold pX12_placeNumber at hf
  replace hf := tg_i hf
  obtain ⟨t0, hf⟩ := hf
  refine J_lload_n Z.1 3 dX12_placeNumber_0 rfl rfl ?_
  refine J_iload Z.1 4 dX12_placeNumber_1 rfl ?_
  refine J_callS (as := [.long p3, .int p5]) (rest := []) (sy := [.int (pX12_isNumber p3 p5)]) Z.1 dX12_placeNumber_3 cw_X12_241 (pX12_isNumber_ok G (dk - 1) (by omega) g h p3 p5) (zG Z) rfl (by decide) (zF Z (by omega)) (zO Z (by omega) (by decide)) (zM _) Z.2.1 Z.2.1 rfl rfl ?_
  refine J_if_ne Z.1 15 dX12_placeNumber_6 (by decide) (fun c1 => ?_) (fun c1 => ?_)
  · rw [if_neg c1] at hf
    refine J_aload_n Z.1 0 dX12_placeNumber_15 rfl rfl ?_
    refine J_get (v := va_rf (hR h this 15)) Z.1 dX12_placeNumber_16 fl_X12_77 t0 rfl ?_
    refine J_tr (fun r2 er2 => ?_)
    replace hf := lt_i hf r2 er2
    refine J_aload_n Z.1 0 dX12_placeNumber_19 rfl rfl ?_
    refine J_get (v := va_rf (hR h this 14)) Z.1 dX12_placeNumber_20 fl_X12_41 t0 rfl ?_
    refine J_tr (fun r3 er3 => ?_)
    replace hf := lt_i hf r3 er3
    refine J_lload_n Z.1 3 dX12_placeNumber_23 rfl rfl ?_
    refine J_iload Z.1 4 dX12_placeNumber_24 rfl ?_
    replace hf := nn_i hf
    obtain ⟨a3, rfl, hf⟩ := hf
    replace hf := tg_i hf
    obtain ⟨t4, hf⟩ := hf
    replace hf := bd_i hf
    obtain ⟨x5, q6, hf⟩ := hf
    refine J_callV (ci := 0) (as := [.long p3, .int p5]) (rest := [va_rf r2]) (sy := [.double x5, va_rf r2]) Z.1 dX12_placeNumber_26 cw_X12_245 (pX1_join_ok G (dk - 1) (by omega) q6) rfl rfl t4 (zG Z) rfl (by simp [cat_i, cat_l, cat_d, cat_rf]) (zF Z (by omega)) (zO Z (by omega) (by decide)) (zM _) Z.2.1 Z.2.1 rfl rfl ?_
    replace hf := nn_i hf
    obtain ⟨a2, rfl, hf⟩ := hf
    replace hf := tg_i hf
    obtain ⟨t7, hf⟩ := hf
    replace hf := bd_i hf
    obtain ⟨h8, q9, hf⟩ := hf
    refine J_callV (ci := 3) (as := [.double x5]) (rest := []) (sy := []) Z.1 dX12_placeNumber_29 cw_X12_249 (pX4_set_ok G (dk - 1) (by omega) q9) rfl rfl t7 (zG Z) rfl (by decide) (zF Z (by omega)) (zO Z (by omega) (by decide)) (zM _) Z.2.1 Z.2.1 rfl rfl ?_
    refine J_aload_n Z.1 1 dX12_placeNumber_32 rfl rfl ?_
    refine J_iload_n Z.1 2 dX12_placeNumber_33 rfl rfl ?_
    refine J_aload_n Z.1 0 dX12_placeNumber_34 rfl rfl ?_
    refine J_get (v := va_rf (hR h8 this 15)) Z.1 dX12_placeNumber_35 fl_X12_77 t0 rfl ?_
    refine J_tr (fun r10 er10 => ?_)
    replace hf := lt_i hf r10 er10
    replace hf := tg_i hf
    obtain ⟨t11, hf⟩ := hf
    replace hf := nn_i hf
    obtain ⟨a10, rfl, hf⟩ := hf
    replace hf := bd_i hf
    obtain ⟨h12, q13, hf⟩ := hf
    refine J_callV (ci := 6) (as := [.int p2, va_rf (some a10)]) (rest := []) (sy := []) Z.1 dX12_placeNumber_38 cw_X12_261 (pX8_keep_ok G (dk - 1) (by omega) q13) rfl rfl t11 (zG Z) rfl (by decide) (zF Z (by omega)) (zO Z (by omega) (by decide)) (zM _) Z.2.1 Z.2.1 rfl rfl ?_
    refine J_aload_n Z.1 0 dX12_placeNumber_41 rfl rfl ?_
    refine J_aload_n Z.1 0 dX12_placeNumber_42 rfl rfl ?_
    refine J_get (v := va_rf (hR h12 this 15)) Z.1 dX12_placeNumber_43 fl_X12_77 t0 rfl ?_
    refine J_tr (fun r14 er14 => ?_)
    replace hf := lt_i hf r14 er14
    replace hf := nn_i hf
    obtain ⟨a14, rfl, hf⟩ := hf
    replace hf := bd2_i hf
    obtain ⟨x17, h15, q16, hf⟩ := hf
    refine J_callV (ci := 10) (as := [va_rf (some a14)]) (rest := []) (sy := [.int x17]) Z.1 dX12_placeNumber_46 cw_X12_228 (pX12_tellOf_ok G (dk - 1) (by omega) q16) rfl rfl t0 (zG Z) rfl (by decide) (zF Z (by omega)) (zO Z (by omega) (by decide)) (zM _) Z.2.1 Z.2.1 rfl rfl ?_
    cases hf
    exact J_iret Z.1 Z.2.2.2.2.2 dX12_placeNumber_49
  · rw [if_pos c1] at hf
    refine J_aload_n Z.1 0 dX12_placeNumber_9 rfl rfl ?_
    refine J_iconst Z.1 (v := 5) (by decide) dX12_placeNumber_10 ?_
    replace hf := bd2_i hf
    obtain ⟨x20, h18, q19, hf⟩ := hf
    refine J_callV (ci := 10) (as := [.int 5]) (rest := []) (sy := [.int x20]) Z.1 dX12_placeNumber_11 cw_X12_143 (pX12_refuse_ok G (dk - 1) (by omega) q19) rfl rfl t0 (zG Z) rfl (by decide) (zF Z (by omega)) (zO Z (by omega) (by decide)) (zM _) Z.2.1 Z.2.1 rfl rfl ?_
    cases hf
    exact J_iret Z.1 Z.2.2.2.2.2 dX12_placeNumber_14
theorem dX12_strange_0 : decode cX12_strange 0 = .ok (.iload_n 1, 1) := by decide +kernel
theorem dX12_strange_1 : decode cX12_strange 1 = .ok (.invokestatic 235, 3) := by decide +kernel
theorem dX12_strange_4 : decode cX12_strange 4 = .ok (.ifCond .ne 9, 3) := by decide +kernel
theorem dX12_strange_7 : decode cX12_strange 7 = .ok (.aload_n 0, 1) := by decide +kernel
theorem dX12_strange_8 : decode cX12_strange 8 = .ok (.iconst 2, 1) := by decide +kernel
theorem dX12_strange_9 : decode cX12_strange 9 = .ok (.invokevirtual 143, 3) := by decide +kernel
theorem dX12_strange_12 : decode cX12_strange 12 = .ok (.ireturn, 1) := by decide +kernel
theorem dX12_strange_13 : decode cX12_strange 13 = .ok (.iload_n 2, 1) := by decide +kernel
theorem dX12_strange_14 : decode cX12_strange 14 = .ok (.iconst 1, 1) := by decide +kernel
theorem dX12_strange_15 : decode cX12_strange 15 = .ok (.iconst 5, 1) := by decide +kernel
theorem dX12_strange_16 : decode cX12_strange 16 = .ok (.invokestatic 109, 3) := by decide +kernel
theorem dX12_strange_19 : decode cX12_strange 19 = .ok (.ifCond .ne 9, 3) := by decide +kernel
theorem dX12_strange_22 : decode cX12_strange 22 = .ok (.aload_n 0, 1) := by decide +kernel
theorem dX12_strange_23 : decode cX12_strange 23 = .ok (.iconst 5, 1) := by decide +kernel
theorem dX12_strange_24 : decode cX12_strange 24 = .ok (.invokevirtual 143, 3) := by decide +kernel
theorem dX12_strange_27 : decode cX12_strange 27 = .ok (.ireturn, 1) := by decide +kernel
theorem dX12_strange_28 : decode cX12_strange 28 = .ok (.aload_n 0, 1) := by decide +kernel
theorem dX12_strange_29 : decode cX12_strange 29 = .ok (.getfield 30, 3) := by decide +kernel
theorem dX12_strange_32 : decode cX12_strange 32 = .ok (.getfield 238, 3) := by decide +kernel
theorem dX12_strange_35 : decode cX12_strange 35 = .ok (.iload_n 1, 1) := by decide +kernel
theorem dX12_strange_36 : decode cX12_strange 36 = .ok (.aload_n 0, 1) := by decide +kernel
theorem dX12_strange_37 : decode cX12_strange 37 = .ok (.getfield 84, 3) := by decide +kernel
theorem dX12_strange_40 : decode cX12_strange 40 = .ok (.invokevirtual 223, 3) := by decide +kernel
theorem dX12_strange_43 : decode cX12_strange 43 = .ok (.aload_n 0, 1) := by decide +kernel
theorem dX12_strange_44 : decode cX12_strange 44 = .ok (.getfield 84, 3) := by decide +kernel
theorem dX12_strange_47 : decode cX12_strange 47 = .ok (.invokevirtual 263, 3) := by decide +kernel
theorem dX12_strange_50 : decode cX12_strange 50 = .ok (.istore_n 3, 1) := by decide +kernel
theorem dX12_strange_51 : decode cX12_strange 51 = .ok (.aload_n 0, 1) := by decide +kernel
theorem dX12_strange_52 : decode cX12_strange 52 = .ok (.getfield 84, 3) := by decide +kernel
theorem dX12_strange_55 : decode cX12_strange 55 = .ok (.iload_n 2, 1) := by decide +kernel
theorem dX12_strange_56 : decode cX12_strange 56 = .ok (.invokevirtual 266, 3) := by decide +kernel
theorem dX12_strange_59 : decode cX12_strange 59 = .ok (.aload_n 0, 1) := by decide +kernel
theorem dX12_strange_60 : decode cX12_strange 60 = .ok (.getfield 30, 3) := by decide +kernel
theorem dX12_strange_63 : decode cX12_strange 63 = .ok (.getfield 238, 3) := by decide +kernel
theorem dX12_strange_66 : decode cX12_strange 66 = .ok (.iload_n 1, 1) := by decide +kernel
theorem dX12_strange_67 : decode cX12_strange 67 = .ok (.aload_n 0, 1) := by decide +kernel
theorem dX12_strange_68 : decode cX12_strange 68 = .ok (.getfield 84, 3) := by decide +kernel
theorem dX12_strange_71 : decode cX12_strange 71 = .ok (.invokevirtual 261, 3) := by decide +kernel
theorem dX12_strange_74 : decode cX12_strange 74 = .ok (.aload_n 0, 1) := by decide +kernel
theorem dX12_strange_75 : decode cX12_strange 75 = .ok (.iload_n 3, 1) := by decide +kernel
theorem dX12_strange_76 : decode cX12_strange 76 = .ok (.invokevirtual 105, 3) := by decide +kernel
theorem dX12_strange_79 : decode cX12_strange 79 = .ok (.ireturn, 1) := by decide +kernel
def pX12_strange (g : MT) (h : CT) (this : Nat) (p1 : Int32) (p2 : Int32) : Option ((Int32) × CT) := tg g this 11 (if (pX12_isWord p1) = 0 then bd2 (pX12_refuse g h this 2) fun x33 h31 => (some (x33, h31)) else if (pX12_within p2 1 5) = 0 then bd2 (pX12_refuse g h this 5) fun x30 h28 => (some (x30, h28)) else lt (hR h this 4) fun r3 => (nn r3 fun a3 => (tg g a3 3 (lt (hR h a3 3) fun r5 => (lt (hR h this 17) fun r6 => (nn r5 fun a5 => (tg g a5 7 (nn r6 fun a6 => (bd (pX8_fetch g h a5 p1 a6) fun h8 => (lt (hR h8 this 17) fun r10 => (nn r10 fun a10 => (tg g a10 4 (bd (pX4_kind g h8 a10) fun x12 => (lt (hR h8 this 17) fun r14 => (nn r14 fun a14 => (tg g a14 4 (bd (pX4_setKind g h8 a14 p2) fun h16 => (lt (hR h16 this 4) fun r18 => (nn r18 fun a18 => (tg g a18 3 (lt (hR h16 a18 3) fun r20 => (lt (hR h16 this 17) fun r21 => (nn r20 fun a20 => (tg g a20 7 (nn r21 fun a21 => (bd (pX8_keep g h16 a20 p1 a21) fun h23 => (bd2 (pX12_answer g h23 this x12) fun x27 h25 => (some (x27, h25)))))))))))))))))))))))))))))
set_option maxRecDepth 10000 in
set_option maxHeartbeats 4000000 in
theorem pX12_strange_ok (G : Gx) (dk : Nat) (hK : 2 ≤ dk) {g : MT} {h h0 : CT} {this : Nat} {p1 : Int32} {p2 : Int32} {r0 : Int32} (hf : pX12_strange g h this p1 p2 = some (r0, h0)) : Ctr G dk yX12_strange cX12_strange 4 (some .int) [va_rf (some this), .int p1, .int p2] g h (some (.int r0)) g h0 := by
  refine Ctr.ofZ (lv := [(0, va_rf (some this)), (1, .int p1), (2, .int p2)]) (by decide +kernel) (by simp [cat_i, cat_l, cat_d, cat_rf]) rfl fun X Z => ?_
  unfold pX12_strange at hf
  replace hf := tg_i hf
  obtain ⟨t0, hf⟩ := hf
  refine J_iload_n Z.1 1 dX12_strange_0 rfl rfl ?_
  refine J_callS (as := [.int p1]) (rest := []) (sy := [.int (pX12_isWord p1)]) Z.1 dX12_strange_1 cw_X12_235 (pX12_isWord_ok G (dk - 1) (by omega) g h p1) (zG Z) rfl (by decide) (zF Z (by omega)) (zO Z (by omega) (by decide)) (zM _) Z.2.1 Z.2.1 rfl rfl ?_
  refine J_if_ne Z.1 13 dX12_strange_4 (by decide) (fun c1 => ?_) (fun c1 => ?_)
  · rw [if_neg c1] at hf
    refine J_iload_n Z.1 2 dX12_strange_13 rfl rfl ?_
    refine J_iconst Z.1 (v := 1) (by decide) dX12_strange_14 ?_
    refine J_iconst Z.1 (v := 5) (by decide) dX12_strange_15 ?_
    refine J_callS (as := [.int p2, .int 1, .int 5]) (rest := []) (sy := [.int (pX12_within p2 1 5)]) Z.1 dX12_strange_16 cw_X12_109 (pX12_within_ok G (dk - 1) (by omega) g h p2 1 5) (zG Z) rfl (by decide) (zF Z (by omega)) (zO Z (by omega) (by decide)) (zM _) Z.2.1 Z.2.1 rfl rfl ?_
    refine J_if_ne Z.1 28 dX12_strange_19 (by decide) (fun c2 => ?_) (fun c2 => ?_)
    · rw [if_neg c2] at hf
      refine J_aload_n Z.1 0 dX12_strange_28 rfl rfl ?_
      refine J_get (v := va_rf (hR h this 4)) Z.1 dX12_strange_29 fl_X12_30 t0 rfl ?_
      refine J_tr (fun r3 er3 => ?_)
      replace hf := lt_i hf r3 er3
      replace hf := nn_i hf
      obtain ⟨a3, rfl, hf⟩ := hf
      replace hf := tg_i hf
      obtain ⟨t4, hf⟩ := hf
      refine J_get (v := va_rf (hR h a3 3)) Z.1 dX12_strange_32 fl_X12_238 t4 rfl ?_
      refine J_tr (fun r5 er5 => ?_)
      replace hf := lt_i hf r5 er5
      refine J_iload_n Z.1 1 dX12_strange_35 rfl rfl ?_
      refine J_aload_n Z.1 0 dX12_strange_36 rfl rfl ?_
      refine J_get (v := va_rf (hR h this 17)) Z.1 dX12_strange_37 fl_X12_84 t0 rfl ?_
      refine J_tr (fun r6 er6 => ?_)
      replace hf := lt_i hf r6 er6
      replace hf := nn_i hf
      obtain ⟨a5, rfl, hf⟩ := hf
      replace hf := tg_i hf
      obtain ⟨t7, hf⟩ := hf
      replace hf := nn_i hf
      obtain ⟨a6, rfl, hf⟩ := hf
      replace hf := bd_i hf
      obtain ⟨h8, q9, hf⟩ := hf
      refine J_callV (ci := 6) (as := [.int p1, va_rf (some a6)]) (rest := []) (sy := []) Z.1 dX12_strange_40 cw_X12_223 (pX8_fetch_ok G (dk - 1) (by omega) q9) rfl rfl t7 (zG Z) rfl (by decide) (zF Z (by omega)) (zO Z (by omega) (by decide)) (zM _) Z.2.1 Z.2.1 rfl rfl ?_
      refine J_aload_n Z.1 0 dX12_strange_43 rfl rfl ?_
      refine J_get (v := va_rf (hR h8 this 17)) Z.1 dX12_strange_44 fl_X12_84 t0 rfl ?_
      refine J_tr (fun r10 er10 => ?_)
      replace hf := lt_i hf r10 er10
      replace hf := nn_i hf
      obtain ⟨a10, rfl, hf⟩ := hf
      replace hf := tg_i hf
      obtain ⟨t11, hf⟩ := hf
      replace hf := bd_i hf
      obtain ⟨x12, q13, hf⟩ := hf
      refine J_callV (ci := 3) (as := []) (rest := []) (sy := [.int x12]) Z.1 dX12_strange_47 cw_X12_263 (pX4_kind_ok G (dk - 1) (by omega) q13) rfl rfl t11 (zG Z) rfl (by decide) (zF Z (by omega)) (zO Z (by omega) (by decide)) (zM _) Z.2.1 Z.2.1 rfl rfl ?_
      refine J_istore_n Z.1 (lv2 := [(3, .int x12), (0, va_rf (some this)), (1, .int p1), (2, .int p2)]) dX12_strange_50 rfl (zL Z (by decide)) rfl ?_
      refine J_aload_n Z.1 1 dX12_strange_51 rfl rfl ?_
      refine J_get (v := va_rf (hR h8 this 17)) Z.1 dX12_strange_52 fl_X12_84 t0 rfl ?_
      refine J_tr (fun r14 er14 => ?_)
      replace hf := lt_i hf r14 er14
      refine J_iload_n Z.1 3 dX12_strange_55 rfl rfl ?_
      replace hf := nn_i hf
      obtain ⟨a14, rfl, hf⟩ := hf
      replace hf := tg_i hf
      obtain ⟨t15, hf⟩ := hf
      replace hf := bd_i hf
      obtain ⟨h16, q17, hf⟩ := hf
      refine J_callV (ci := 3) (as := [.int p2]) (rest := []) (sy := []) Z.1 dX12_strange_56 cw_X12_266 (pX4_setKind_ok G (dk - 1) (by omega) q17) rfl rfl t15 (zG Z) rfl (by decide) (zF Z (by omega)) (zO Z (by omega) (by decide)) (zM _) Z.2.1 Z.2.1 rfl rfl ?_
      refine J_aload_n Z.1 1 dX12_strange_59 rfl rfl ?_
      refine J_get (v := va_rf (hR h16 this 4)) Z.1 dX12_strange_60 fl_X12_30 t0 rfl ?_
      refine J_tr (fun r18 er18 => ?_)
      replace hf := lt_i hf r18 er18
      replace hf := nn_i hf
      obtain ⟨a18, rfl, hf⟩ := hf
      replace hf := tg_i hf
      obtain ⟨t19, hf⟩ := hf
      refine J_get (v := va_rf (hR h16 a18 3)) Z.1 dX12_strange_63 fl_X12_238 t19 rfl ?_
      refine J_tr (fun r20 er20 => ?_)
      replace hf := lt_i hf r20 er20
      refine J_iload_n Z.1 2 dX12_strange_66 rfl rfl ?_
      refine J_aload_n Z.1 1 dX12_strange_67 rfl rfl ?_
      refine J_get (v := va_rf (hR h16 this 17)) Z.1 dX12_strange_68 fl_X12_84 t0 rfl ?_
      refine J_tr (fun r21 er21 => ?_)
      replace hf := lt_i hf r21 er21
      replace hf := nn_i hf
      obtain ⟨a20, rfl, hf⟩ := hf
      replace hf := tg_i hf
      obtain ⟨t22, hf⟩ := hf
      replace hf := nn_i hf
      obtain ⟨a21, rfl, hf⟩ := hf
      replace hf := bd_i hf
      obtain ⟨h23, q24, hf⟩ := hf
      refine J_callV (ci := 6) (as := [.int p1, va_rf (some a21)]) (rest := []) (sy := []) Z.1 dX12_strange_71 cw_X12_261 (pX8_keep_ok G (dk - 1) (by omega) q24) rfl rfl t22 (zG Z) rfl (by decide) (zF Z (by omega)) (zO Z (by omega) (by decide)) (zM _) Z.2.1 Z.2.1 rfl rfl ?_
      refine J_aload_n Z.1 1 dX12_strange_74 rfl rfl ?_
      refine J_iload_n Z.1 0 dX12_strange_75 rfl rfl ?_
      replace hf := bd2_i hf
      obtain ⟨x27, h25, q26, hf⟩ := hf
      refine J_callV (ci := 10) (as := [.int x12]) (rest := []) (sy := [.int x27]) Z.1 dX12_strange_76 cw_X12_105 (pX12_answer_ok G (dk - 1) (by omega) q26) rfl rfl t0 (zG Z) rfl (by decide) (zF Z (by omega)) (zO Z (by omega) (by decide)) (zM _) Z.2.1 Z.2.1 rfl rfl ?_
      cases hf
      exact J_iret Z.1 Z.2.2.2.2.2 dX12_strange_79
    · rw [if_pos c2] at hf
      refine J_aload_n Z.1 0 dX12_strange_22 rfl rfl ?_
      refine J_iconst Z.1 (v := 5) (by decide) dX12_strange_23 ?_
      replace hf := bd2_i hf
      obtain ⟨x30, h28, q29, hf⟩ := hf
      refine J_callV (ci := 10) (as := [.int 5]) (rest := []) (sy := [.int x30]) Z.1 dX12_strange_24 cw_X12_143 (pX12_refuse_ok G (dk - 1) (by omega) q29) rfl rfl t0 (zG Z) rfl (by decide) (zF Z (by omega)) (zO Z (by omega) (by decide)) (zM _) Z.2.1 Z.2.1 rfl rfl ?_
      cases hf
      exact J_iret Z.1 Z.2.2.2.2.2 dX12_strange_27
  · rw [if_pos c1] at hf
    refine J_aload_n Z.1 0 dX12_strange_7 rfl rfl ?_
    refine J_iconst Z.1 (v := 2) (by decide) dX12_strange_8 ?_
    replace hf := bd2_i hf
    obtain ⟨x33, h31, q32, hf⟩ := hf
    refine J_callV (ci := 10) (as := [.int 2]) (rest := []) (sy := [.int x33]) Z.1 dX12_strange_9 cw_X12_143 (pX12_refuse_ok G (dk - 1) (by omega) q32) rfl rfl t0 (zG Z) rfl (by decide) (zF Z (by omega)) (zO Z (by omega) (by decide)) (zM _) Z.2.1 Z.2.1 rfl rfl ?_
    cases hf
    exact J_iret Z.1 Z.2.2.2.2.2 dX12_strange_12
theorem dX12_peekAll_0 : decode cX12_peekAll 0 = .ok (.aload_n 0, 1) := by decide +kernel
theorem dX12_peekAll_1 : decode cX12_peekAll 1 = .ok (.iload_n 1, 1) := by decide +kernel
theorem dX12_peekAll_2 : decode cX12_peekAll 2 = .ok (.iload_n 2, 1) := by decide +kernel
theorem dX12_peekAll_3 : decode cX12_peekAll 3 = .ok (.iload_n 3, 1) := by decide +kernel
theorem dX12_peekAll_4 : decode cX12_peekAll 4 = .ok (.invokevirtual 272, 3) := by decide +kernel
theorem dX12_peekAll_7 : decode cX12_peekAll 7 = .ok (.istore 4, 2) := by decide +kernel
theorem dX12_peekAll_9 : decode cX12_peekAll 9 = .ok (.iload 4, 2) := by decide +kernel
theorem dX12_peekAll_11 : decode cX12_peekAll 11 = .ok (.ifCond .eq 10, 3) := by decide +kernel
theorem dX12_peekAll_14 : decode cX12_peekAll 14 = .ok (.aload_n 0, 1) := by decide +kernel
theorem dX12_peekAll_15 : decode cX12_peekAll 15 = .ok (.iload 4, 2) := by decide +kernel
theorem dX12_peekAll_17 : decode cX12_peekAll 17 = .ok (.invokevirtual 143, 3) := by decide +kernel
theorem dX12_peekAll_20 : decode cX12_peekAll 20 = .ok (.ireturn, 1) := by decide +kernel
theorem dX12_peekAll_21 : decode cX12_peekAll 21 = .ok (.iconst 0, 1) := by decide +kernel
theorem dX12_peekAll_22 : decode cX12_peekAll 22 = .ok (.istore 5, 2) := by decide +kernel
theorem dX12_peekAll_24 : decode cX12_peekAll 24 = .ok (.iload 5, 2) := by decide +kernel
theorem dX12_peekAll_26 : decode cX12_peekAll 26 = .ok (.iload_n 3, 1) := by decide +kernel
theorem dX12_peekAll_27 : decode cX12_peekAll 27 = .ok (.if_icmp .ge 45, 3) := by decide +kernel
theorem dX12_peekAll_30 : decode cX12_peekAll 30 = .ok (.aload_n 0, 1) := by decide +kernel
theorem dX12_peekAll_31 : decode cX12_peekAll 31 = .ok (.getfield 30, 3) := by decide +kernel
theorem dX12_peekAll_34 : decode cX12_peekAll 34 = .ok (.getfield 238, 3) := by decide +kernel
theorem dX12_peekAll_37 : decode cX12_peekAll 37 = .ok (.iload_n 1, 1) := by decide +kernel
theorem dX12_peekAll_38 : decode cX12_peekAll 38 = .ok (.iload 5, 2) := by decide +kernel
theorem dX12_peekAll_40 : decode cX12_peekAll 40 = .ok (.iadd, 1) := by decide +kernel
theorem dX12_peekAll_41 : decode cX12_peekAll 41 = .ok (.aload_n 0, 1) := by decide +kernel
theorem dX12_peekAll_42 : decode cX12_peekAll 42 = .ok (.getfield 84, 3) := by decide +kernel
theorem dX12_peekAll_45 : decode cX12_peekAll 45 = .ok (.invokevirtual 223, 3) := by decide +kernel
theorem dX12_peekAll_48 : decode cX12_peekAll 48 = .ok (.aload_n 0, 1) := by decide +kernel
theorem dX12_peekAll_49 : decode cX12_peekAll 49 = .ok (.getfield 11, 3) := by decide +kernel
theorem dX12_peekAll_52 : decode cX12_peekAll 52 = .ok (.iload_n 2, 1) := by decide +kernel
theorem dX12_peekAll_53 : decode cX12_peekAll 53 = .ok (.aaload, 1) := by decide +kernel
theorem dX12_peekAll_54 : decode cX12_peekAll 54 = .ok (.iload 5, 2) := by decide +kernel
theorem dX12_peekAll_56 : decode cX12_peekAll 56 = .ok (.aload_n 0, 1) := by decide +kernel
theorem dX12_peekAll_57 : decode cX12_peekAll 57 = .ok (.getfield 84, 3) := by decide +kernel
theorem dX12_peekAll_60 : decode cX12_peekAll 60 = .ok (.invokevirtual 276, 3) := by decide +kernel
theorem dX12_peekAll_63 : decode cX12_peekAll 63 = .ok (.invokevirtual 139, 3) := by decide +kernel
theorem dX12_peekAll_66 : decode cX12_peekAll 66 = .ok (.iinc 5 1, 3) := by decide +kernel
theorem dX12_peekAll_69 : decode cX12_peekAll 69 = .ok (.goto (-45), 3) := by decide +kernel
theorem dX12_peekAll_72 : decode cX12_peekAll 72 = .ok (.aload_n 0, 1) := by decide +kernel
theorem dX12_peekAll_73 : decode cX12_peekAll 73 = .ok (.iload_n 3, 1) := by decide +kernel
theorem dX12_peekAll_74 : decode cX12_peekAll 74 = .ok (.invokevirtual 105, 3) := by decide +kernel
theorem dX12_peekAll_77 : decode cX12_peekAll 77 = .ok (.ireturn, 1) := by decide +kernel
def pX12_peekAll_b24 (g : MT) (this : Nat) (p1 : Int32) (p2 : Int32) (p3 : Int32) (k24 : Int32 → CT → Option ((Int32) × CT)) (l5 : Int32) (h : CT) : Option ((Int32) × CT) := if p3 ≤ l5 then bd2 (pX12_answer g h this p3) fun x4 h2 => (some (x4, h2)) else lt (hR h this 4) fun r5 => (nn r5 fun a5 => (tg g a5 3 (lt (hR h a5 3) fun r7 => (lt (hR h this 17) fun r8 => (nn r7 fun a7 => (tg g a7 7 (nn r8 fun a8 => (bd (pX8_fetch g h a7 (p1 + l5) a8) fun h10 => (lt (hR h10 this 0) fun r12 => (nn r12 fun a12 => (tg g a12 28 (ix (gL g a12) p2 (lt (hR h10 a12 (Int32.toNatClampNeg p2)) fun r15 => (lt (hR h10 this 17) fun r16 => (nn r16 fun a16 => (tg g a16 4 (bd (pX4_asLong g h10 a16) fun x18 => (nn r15 fun a15 => (tg g a15 10 (bd (pX11_keep g h10 a15 l5 x18) fun h21 => (lt (l5 + 1) fun x23 => (k24 x23 h21))))))))))))))))))))))
set_option maxRecDepth 10000 in
set_option maxHeartbeats 4000000 in
theorem pX12_peekAll_b24_ok {X : Cx} {G : Gx} {dk : Nat} {g : MT} {r0 : Int32} {h0 : CT} {this : Nat} {p1 : Int32} {p2 : Int32} {p3 : Int32} {k24 : Int32 → CT → Option ((Int32) × CT)} (Z : Zx X G cX12_peekAll RX12 6 dk (some .int) (some (.int r0)) g h0) (hK : 3 ≤ dk) (t0 : gT g this = 11) (hk24 : ∀ (l5 : Int32) (h : CT), k24 l5 h = some (r0, h0) → J X g h 24 [(0, va_rf (some this)), (1, .int p1), (2, .int p2), (3, .int p3), (5, .int l5)] []) (l5 : Int32) (h : CT) (hf : pX12_peekAll_b24 g this p1 p2 p3 k24 l5 h = some (r0, h0)) : J X g h 24 [(0, va_rf (some this)), (1, .int p1), (2, .int p2), (3, .int p3), (5, .int l5)] [] := by
  unfold pX12_peekAll_b24 at hf
  refine J_iload Z.1 4 dX12_peekAll_24 rfl ?_
  refine J_iload_n Z.1 3 dX12_peekAll_26 rfl rfl ?_
  refine J_icmp_ge Z.1 72 dX12_peekAll_27 (by decide) (fun c1 => ?_) (fun c1 => ?_)
  · rw [if_pos c1] at hf
    refine J_aload_n Z.1 0 dX12_peekAll_72 rfl rfl ?_
    refine J_iload_n Z.1 3 dX12_peekAll_73 rfl rfl ?_
    replace hf := bd2_i hf
    obtain ⟨x4, h2, q3, hf⟩ := hf
    refine J_callV (ci := 10) (as := [.int p3]) (rest := []) (sy := [.int x4]) Z.1 dX12_peekAll_74 cw_X12_105 (pX12_answer_ok G (dk - 1) (by omega) q3) rfl rfl t0 (zG Z) rfl (by decide) (zF Z (by omega)) (zO Z (by omega) (by decide)) (zM _) Z.2.1 Z.2.1 rfl rfl ?_
    cases hf
    exact J_iret Z.1 Z.2.2.2.2.2 dX12_peekAll_77
  · rw [if_neg c1] at hf
    refine J_aload_n Z.1 0 dX12_peekAll_30 rfl rfl ?_
    refine J_get (v := va_rf (hR h this 4)) Z.1 dX12_peekAll_31 fl_X12_30 t0 rfl ?_
    refine J_tr (fun r5 er5 => ?_)
    replace hf := lt_i hf r5 er5
    replace hf := nn_i hf
    obtain ⟨a5, rfl, hf⟩ := hf
    replace hf := tg_i hf
    obtain ⟨t6, hf⟩ := hf
    refine J_get (v := va_rf (hR h a5 3)) Z.1 dX12_peekAll_34 fl_X12_238 t6 rfl ?_
    refine J_tr (fun r7 er7 => ?_)
    replace hf := lt_i hf r7 er7
    refine J_iload_n Z.1 1 dX12_peekAll_37 rfl rfl ?_
    refine J_iload Z.1 4 dX12_peekAll_38 rfl ?_
    refine J_iadd Z.1 dX12_peekAll_40 ?_
    refine J_aload_n Z.1 0 dX12_peekAll_41 rfl rfl ?_
    refine J_get (v := va_rf (hR h this 17)) Z.1 dX12_peekAll_42 fl_X12_84 t0 rfl ?_
    refine J_tr (fun r8 er8 => ?_)
    replace hf := lt_i hf r8 er8
    replace hf := nn_i hf
    obtain ⟨a7, rfl, hf⟩ := hf
    replace hf := tg_i hf
    obtain ⟨t9, hf⟩ := hf
    replace hf := nn_i hf
    obtain ⟨a8, rfl, hf⟩ := hf
    replace hf := bd_i hf
    obtain ⟨h10, q11, hf⟩ := hf
    refine J_callV (ci := 6) (as := [.int (p1 + l5), va_rf (some a8)]) (rest := []) (sy := []) Z.1 dX12_peekAll_45 cw_X12_223 (pX8_fetch_ok G (dk - 1) (by omega) q11) rfl rfl t9 (zG Z) rfl (by decide) (zF Z (by omega)) (zO Z (by omega) (by decide)) (zM _) Z.2.1 Z.2.1 rfl rfl ?_
    refine J_aload_n Z.1 0 dX12_peekAll_48 rfl rfl ?_
    refine J_get (v := va_rf (hR h10 this 0)) Z.1 dX12_peekAll_49 fl_X12_11 t0 rfl ?_
    refine J_tr (fun r12 er12 => ?_)
    replace hf := lt_i hf r12 er12
    refine J_iload_n Z.1 2 dX12_peekAll_52 rfl rfl ?_
    replace hf := nn_i hf
    obtain ⟨a12, rfl, hf⟩ := hf
    replace hf := tg_i hf
    obtain ⟨t13, hf⟩ := hf
    replace hf := ix_i hf
    obtain ⟨i14, hf⟩ := hf
    refine J_aaload (t := 8) Z.1 dX12_peekAll_53 t13 rfl i14 ?_
    refine J_tr (fun r15 er15 => ?_)
    replace hf := lt_i hf r15 er15
    refine J_iload Z.1 4 dX12_peekAll_54 rfl ?_
    refine J_aload_n Z.1 0 dX12_peekAll_56 rfl rfl ?_
    refine J_get (v := va_rf (hR h10 this 17)) Z.1 dX12_peekAll_57 fl_X12_84 t0 rfl ?_
    refine J_tr (fun r16 er16 => ?_)
    replace hf := lt_i hf r16 er16
    replace hf := nn_i hf
    obtain ⟨a16, rfl, hf⟩ := hf
    replace hf := tg_i hf
    obtain ⟨t17, hf⟩ := hf
    replace hf := bd_i hf
    obtain ⟨x18, q19, hf⟩ := hf
    refine J_callV (ci := 3) (as := []) (rest := [.int l5, va_rf r15]) (sy := [.long x18, .int l5, va_rf r15]) Z.1 dX12_peekAll_60 cw_X12_276 (pX4_asLong_ok G (dk - 1) (by omega) q19) rfl rfl t17 (zG Z) rfl (by simp [cat_i, cat_l, cat_d, cat_rf]) (zF Z (by omega)) (zO Z (by omega) (by decide)) (zM _) Z.2.1 Z.2.1 rfl rfl ?_
    replace hf := nn_i hf
    obtain ⟨a15, rfl, hf⟩ := hf
    replace hf := tg_i hf
    obtain ⟨t20, hf⟩ := hf
    replace hf := bd_i hf
    obtain ⟨h21, q22, hf⟩ := hf
    refine J_callV (ci := 9) (as := [.int l5, .long x18]) (rest := []) (sy := []) Z.1 dX12_peekAll_63 cw_X12_139 (pX11_keep_ok G (dk - 1) (by omega) q22) rfl rfl t20 (zG Z) rfl (by decide) (zF Z (by omega)) (zO Z (by omega) (by decide)) (zM _) Z.2.1 Z.2.1 rfl rfl ?_
    refine J_iinc Z.1 (v := 1) (lv2 := [(5, .int (l5 + 1)), (0, va_rf (some this)), (1, .int p1), (2, .int p2), (3, .int p3)]) 4 dX12_peekAll_66 rfl (by decide) (zL Z (by decide)) rfl ?_
    obtain ⟨x23, ex23⟩ : ∃ z, z = (l5 + 1) := ⟨_, rfl⟩
    replace hf := lt_i hf x23 ex23
    rw [← ex23]
    refine J_goto Z.1 24 dX12_peekAll_69 (by decide) ?_
    refine J_lv [1, 2, 3, 4, 0] rfl ?_
    exact hk24 _ _ hf
def pX12_peekAll_l24 (g : MT) (this : Nat) (p1 : Int32) (p2 : Int32) (p3 : Int32) : Nat → Int32 → CT → Option ((Int32) × CT)
  | 0, _, _ => none
  | n + 1, l5, h => pX12_peekAll_b24 g this p1 p2 p3 (pX12_peekAll_l24 g this p1 p2 p3 n) l5 h
theorem pX12_peekAll_l24_ok {X : Cx} {G : Gx} {dk : Nat} {g : MT} {r0 : Int32} {h0 : CT} {this : Nat} {p1 : Int32} {p2 : Int32} {p3 : Int32} (Z : Zx X G cX12_peekAll RX12 6 dk (some .int) (some (.int r0)) g h0) (hK : 3 ≤ dk) (t0 : gT g this = 11) : ∀ (n : Nat) (l5 : Int32) (h : CT), pX12_peekAll_l24 g this p1 p2 p3 n l5 h = some (r0, h0) → J X g h 24 [(0, va_rf (some this)), (1, .int p1), (2, .int p2), (3, .int p3), (5, .int l5)] [] := by
  intro n
  induction n with
  | zero => intro l5 h hf; cases hf
  | succ n ih => intro l5 h hf; exact pX12_peekAll_b24_ok Z hK t0 ih l5 h hf
def pX12_peekAll (g : MT) (h : CT) (this : Nat) (p1 : Int32) (p2 : Int32) (p3 : Int32) : Option ((Int32) × CT) := tg g this 11 (bd (pX12_wholesaleTrouble g h this p1 p2 p3) fun x1 => (if x1 = 0 then pX12_peekAll_l24 g this p1 p2 p3  FUEL 0 h else bd2 (pX12_refuse g h this x1) fun x6 h4 => (some (x6, h4))))
set_option maxRecDepth 10000 in
set_option maxHeartbeats 4000000 in
theorem pX12_peekAll_ok (G : Gx) (dk : Nat) (hK : 3 ≤ dk) {g : MT} {h h0 : CT} {this : Nat} {p1 : Int32} {p2 : Int32} {p3 : Int32} {r0 : Int32} (hf : pX12_peekAll g h this p1 p2 p3 = some (r0, h0)) : Ctr G dk yX12_peekAll cX12_peekAll 6 (some .int) [va_rf (some this), .int p1, .int p2, .int p3] g h (some (.int r0)) g h0 := by
  refine Ctr.ofZ (lv := [(0, va_rf (some this)), (1, .int p1), (2, .int p2), (3, .int p3)]) (by decide +kernel) (by simp [cat_i, cat_l, cat_d, cat_rf]) rfl fun X Z => ?_
  unfold pX12_peekAll at hf
  replace hf := tg_i hf
  obtain ⟨t0, hf⟩ := hf
  refine J_aload_n Z.1 0 dX12_peekAll_0 rfl rfl ?_
  refine J_iload_n Z.1 1 dX12_peekAll_1 rfl rfl ?_
  refine J_iload_n Z.1 2 dX12_peekAll_2 rfl rfl ?_
  refine J_iload_n Z.1 3 dX12_peekAll_3 rfl rfl ?_
  replace hf := bd_i hf
  obtain ⟨x1, q2, hf⟩ := hf
  refine J_callV (ci := 10) (as := [.int p1, .int p2, .int p3]) (rest := []) (sy := [.int x1]) Z.1 dX12_peekAll_4 cw_X12_272 (pX12_wholesaleTrouble_ok G (dk - 1) (by omega) q2) rfl rfl t0 (zG Z) rfl (by decide) (zF Z (by omega)) (zO Z (by omega) (by decide)) (zM _) Z.2.1 Z.2.1 rfl rfl ?_
  refine J_istore Z.1 (lv2 := [(4, .int x1), (0, va_rf (some this)), (1, .int p1), (2, .int p2), (3, .int p3)]) dX12_peekAll_7 (zL Z (by decide)) rfl ?_
  refine J_iload Z.1 0 dX12_peekAll_9 rfl ?_
  refine J_if_eq Z.1 21 dX12_peekAll_11 (by decide) (fun c3 => ?_) (fun c3 => ?_)
  · rw [if_pos c3] at hf
    refine J_iconst Z.1 (v := 0) (by decide) dX12_peekAll_21 ?_
    refine J_istore Z.1 (lv2 := [(5, .int 0), (4, .int x1), (0, va_rf (some this)), (1, .int p1), (2, .int p2), (3, .int p3)]) dX12_peekAll_22 (zL Z (by decide)) rfl ?_
    refine J_lv [2, 3, 4, 5, 0] rfl ?_
    exact pX12_peekAll_l24_ok Z hK t0  FUEL _ _ hf
  · rw [if_neg c3] at hf
    refine J_aload_n Z.1 1 dX12_peekAll_14 rfl rfl ?_
    refine J_iload Z.1 0 dX12_peekAll_15 rfl ?_
    replace hf := bd2_i hf
    obtain ⟨x6, h4, q5, hf⟩ := hf
    refine J_callV (ci := 10) (as := [.int x1]) (rest := []) (sy := [.int x6]) Z.1 dX12_peekAll_17 cw_X12_143 (pX12_refuse_ok G (dk - 1) (by omega) q5) rfl rfl t0 (zG Z) rfl (by decide) (zF Z (by omega)) (zO Z (by omega) (by decide)) (zM _) Z.2.1 Z.2.1 rfl rfl ?_
    cases hf
    exact J_iret Z.1 Z.2.2.2.2.2 dX12_peekAll_20
theorem dX12_sum_0 : decode cX12_sum 0 = .ok (.aload_n 0, 1) := by decide +kernel
theorem dX12_sum_1 : decode cX12_sum 1 = .ok (.iload_n 1, 1) := by decide +kernel
theorem dX12_sum_2 : decode cX12_sum 2 = .ok (.invokevirtual 216, 3) := by decide +kernel
theorem dX12_sum_5 : decode cX12_sum 5 = .ok (.istore_n 3, 1) := by decide +kernel
theorem dX12_sum_6 : decode cX12_sum 6 = .ok (.iload_n 3, 1) := by decide +kernel
theorem dX12_sum_7 : decode cX12_sum 7 = .ok (.ifCond .eq 9, 3) := by decide +kernel
theorem dX12_sum_10 : decode cX12_sum 10 = .ok (.aload_n 0, 1) := by decide +kernel
theorem dX12_sum_11 : decode cX12_sum 11 = .ok (.iload_n 3, 1) := by decide +kernel
theorem dX12_sum_12 : decode cX12_sum 12 = .ok (.invokevirtual 143, 3) := by decide +kernel
theorem dX12_sum_15 : decode cX12_sum 15 = .ok (.ireturn, 1) := by decide +kernel
theorem dX12_sum_16 : decode cX12_sum 16 = .ok (.iload_n 2, 1) := by decide +kernel
theorem dX12_sum_17 : decode cX12_sum 17 = .ok (.iconst 0, 1) := by decide +kernel
theorem dX12_sum_18 : decode cX12_sum 18 = .ok (.iconst 2, 1) := by decide +kernel
theorem dX12_sum_19 : decode cX12_sum 19 = .ok (.invokestatic 109, 3) := by decide +kernel
theorem dX12_sum_22 : decode cX12_sum 22 = .ok (.ifCond .ne 9, 3) := by decide +kernel
theorem dX12_sum_25 : decode cX12_sum 25 = .ok (.aload_n 0, 1) := by decide +kernel
theorem dX12_sum_26 : decode cX12_sum 26 = .ok (.iconst 5, 1) := by decide +kernel
theorem dX12_sum_27 : decode cX12_sum 27 = .ok (.invokevirtual 143, 3) := by decide +kernel
theorem dX12_sum_30 : decode cX12_sum 30 = .ok (.ireturn, 1) := by decide +kernel
theorem dX12_sum_31 : decode cX12_sum 31 = .ok (.aload_n 0, 1) := by decide +kernel
theorem dX12_sum_32 : decode cX12_sum 32 = .ok (.aload_n 0, 1) := by decide +kernel
theorem dX12_sum_33 : decode cX12_sum 33 = .ok (.getfield 77, 3) := by decide +kernel
theorem dX12_sum_36 : decode cX12_sum 36 = .ok (.iload_n 1, 1) := by decide +kernel
theorem dX12_sum_37 : decode cX12_sum 37 = .ok (.iload_n 2, 1) := by decide +kernel
theorem dX12_sum_38 : decode cX12_sum 38 = .ok (.invokevirtual 321, 3) := by decide +kernel
theorem dX12_sum_41 : decode cX12_sum 41 = .ok (.aload_n 0, 1) := by decide +kernel
theorem dX12_sum_42 : decode cX12_sum 42 = .ok (.aload_n 0, 1) := by decide +kernel
theorem dX12_sum_43 : decode cX12_sum 43 = .ok (.getfield 77, 3) := by decide +kernel
theorem dX12_sum_46 : decode cX12_sum 46 = .ok (.invokevirtual 228, 3) := by decide +kernel
theorem dX12_sum_49 : decode cX12_sum 49 = .ok (.ireturn, 1) := by decide +kernel
def pX12_sum (g : MT) (h : CT) (this : Nat) (p1 : Int32) (p2 : Int32) : Option ((Int32) × CT) := tg g this 11 (bd (pX12_rowTrouble g h this p1) fun x1 => (if x1 = 0 then if (pX12_within p2 0 2) = 0 then bd2 (pX12_refuse g h this 5) fun x14 h12 => (some (x14, h12)) else lt (hR h this 15) fun r5 => (nn r5 fun a5 => (bd (pX12_sumInto g h this a5 p1 p2) fun h6 => (lt (hR h6 this 15) fun r8 => (nn r8 fun a8 => (bd2 (pX12_tellOf g h6 this a8) fun x11 h9 => (some (x11, h9))))))) else bd2 (pX12_refuse g h this x1) fun x17 h15 => (some (x17, h15))))
set_option maxRecDepth 10000 in
set_option maxHeartbeats 4000000 in
theorem pX12_sum_ok (G : Gx) (dk : Nat) (hK : 4 ≤ dk) {g : MT} {h h0 : CT} {this : Nat} {p1 : Int32} {p2 : Int32} {r0 : Int32} (hf : pX12_sum g h this p1 p2 = some (r0, h0)) : Ctr G dk yX12_sum cX12_sum 4 (some .int) [va_rf (some this), .int p1, .int p2] g h (some (.int r0)) g h0 := by
  refine Ctr.ofZ (lv := [(0, va_rf (some this)), (1, .int p1), (2, .int p2)]) (by decide +kernel) (by simp [cat_i, cat_l, cat_d, cat_rf]) rfl fun X Z => ?_
  unfold pX12_sum at hf
  replace hf := tg_i hf
  obtain ⟨t0, hf⟩ := hf
  refine J_aload_n Z.1 0 dX12_sum_0 rfl rfl ?_
  refine J_iload_n Z.1 1 dX12_sum_1 rfl rfl ?_
  replace hf := bd_i hf
  obtain ⟨x1, q2, hf⟩ := hf
  refine J_callV (ci := 10) (as := [.int p1]) (rest := []) (sy := [.int x1]) Z.1 dX12_sum_2 cw_X12_216 (pX12_rowTrouble_ok G (dk - 1) (by omega) q2) rfl rfl t0 (zG Z) rfl (by decide) (zF Z (by omega)) (zO Z (by omega) (by decide)) (zM _) Z.2.1 Z.2.1 rfl rfl ?_
  refine J_istore_n Z.1 (lv2 := [(3, .int x1), (0, va_rf (some this)), (1, .int p1), (2, .int p2)]) dX12_sum_5 rfl (zL Z (by decide)) rfl ?_
  refine J_iload_n Z.1 0 dX12_sum_6 rfl rfl ?_
  refine J_if_eq Z.1 16 dX12_sum_7 (by decide) (fun c3 => ?_) (fun c3 => ?_)
  · rw [if_pos c3] at hf
    refine J_iload_n Z.1 3 dX12_sum_16 rfl rfl ?_
    refine J_iconst Z.1 (v := 0) (by decide) dX12_sum_17 ?_
    refine J_iconst Z.1 (v := 2) (by decide) dX12_sum_18 ?_
    refine J_callS (as := [.int p2, .int 0, .int 2]) (rest := []) (sy := [.int (pX12_within p2 0 2)]) Z.1 dX12_sum_19 cw_X12_109 (pX12_within_ok G (dk - 1) (by omega) g h p2 0 2) (zG Z) rfl (by decide) (zF Z (by omega)) (zO Z (by omega) (by decide)) (zM _) Z.2.1 Z.2.1 rfl rfl ?_
    refine J_if_ne Z.1 31 dX12_sum_22 (by decide) (fun c4 => ?_) (fun c4 => ?_)
    · rw [if_neg c4] at hf
      refine J_aload_n Z.1 1 dX12_sum_31 rfl rfl ?_
      refine J_aload_n Z.1 1 dX12_sum_32 rfl rfl ?_
      refine J_get (v := va_rf (hR h this 15)) Z.1 dX12_sum_33 fl_X12_77 t0 rfl ?_
      refine J_tr (fun r5 er5 => ?_)
      replace hf := lt_i hf r5 er5
      refine J_iload_n Z.1 2 dX12_sum_36 rfl rfl ?_
      refine J_iload_n Z.1 3 dX12_sum_37 rfl rfl ?_
      replace hf := nn_i hf
      obtain ⟨a5, rfl, hf⟩ := hf
      replace hf := bd_i hf
      obtain ⟨h6, q7, hf⟩ := hf
      refine J_callV (ci := 10) (as := [va_rf (some a5), .int p1, .int p2]) (rest := []) (sy := []) Z.1 dX12_sum_38 cw_X12_321 (pX12_sumInto_ok G (dk - 1) (by omega) q7) rfl rfl t0 (zG Z) rfl (by decide) (zF Z (by omega)) (zO Z (by omega) (by decide)) (zM _) Z.2.1 Z.2.1 rfl rfl ?_
      refine J_aload_n Z.1 1 dX12_sum_41 rfl rfl ?_
      refine J_aload_n Z.1 1 dX12_sum_42 rfl rfl ?_
      refine J_get (v := va_rf (hR h6 this 15)) Z.1 dX12_sum_43 fl_X12_77 t0 rfl ?_
      refine J_tr (fun r8 er8 => ?_)
      replace hf := lt_i hf r8 er8
      replace hf := nn_i hf
      obtain ⟨a8, rfl, hf⟩ := hf
      replace hf := bd2_i hf
      obtain ⟨x11, h9, q10, hf⟩ := hf
      refine J_callV (ci := 10) (as := [va_rf (some a8)]) (rest := []) (sy := [.int x11]) Z.1 dX12_sum_46 cw_X12_228 (pX12_tellOf_ok G (dk - 1) (by omega) q10) rfl rfl t0 (zG Z) rfl (by decide) (zF Z (by omega)) (zO Z (by omega) (by decide)) (zM _) Z.2.1 Z.2.1 rfl rfl ?_
      cases hf
      exact J_iret Z.1 Z.2.2.2.2.2 dX12_sum_49
    · rw [if_pos c4] at hf
      refine J_aload_n Z.1 1 dX12_sum_25 rfl rfl ?_
      refine J_iconst Z.1 (v := 5) (by decide) dX12_sum_26 ?_
      replace hf := bd2_i hf
      obtain ⟨x14, h12, q13, hf⟩ := hf
      refine J_callV (ci := 10) (as := [.int 5]) (rest := []) (sy := [.int x14]) Z.1 dX12_sum_27 cw_X12_143 (pX12_refuse_ok G (dk - 1) (by omega) q13) rfl rfl t0 (zG Z) rfl (by decide) (zF Z (by omega)) (zO Z (by omega) (by decide)) (zM _) Z.2.1 Z.2.1 rfl rfl ?_
      cases hf
      exact J_iret Z.1 Z.2.2.2.2.2 dX12_sum_30
  · rw [if_neg c3] at hf
    refine J_aload_n Z.1 1 dX12_sum_10 rfl rfl ?_
    refine J_iload_n Z.1 0 dX12_sum_11 rfl rfl ?_
    replace hf := bd2_i hf
    obtain ⟨x17, h15, q16, hf⟩ := hf
    refine J_callV (ci := 10) (as := [.int x1]) (rest := []) (sy := [.int x17]) Z.1 dX12_sum_12 cw_X12_143 (pX12_refuse_ok G (dk - 1) (by omega) q16) rfl rfl t0 (zG Z) rfl (by decide) (zF Z (by omega)) (zO Z (by omega) (by decide)) (zM _) Z.2.1 Z.2.1 rfl rfl ?_
    cases hf
    exact J_iret Z.1 Z.2.2.2.2.2 dX12_sum_15
theorem dX6_follow_0 : decode cX6_follow 0 = .ok (.aload_n 0, 1) := by decide +kernel
theorem dX6_follow_1 : decode cX6_follow 1 = .ok (.getfield 24, 3) := by decide +kernel
theorem dX6_follow_4 : decode cX6_follow 4 = .ok (.aload_n 0, 1) := by decide +kernel
theorem dX6_follow_5 : decode cX6_follow 5 = .ok (.getfield 51, 3) := by decide +kernel
theorem dX6_follow_8 : decode cX6_follow 8 = .ok (.invokevirtual 111, 3) := by decide +kernel
theorem dX6_follow_11 : decode cX6_follow 11 = .ok (.istore_n 1, 1) := by decide +kernel
theorem dX6_follow_12 : decode cX6_follow 12 = .ok (.aload_n 0, 1) := by decide +kernel
theorem dX6_follow_13 : decode cX6_follow 13 = .ok (.dup, 1) := by decide +kernel
theorem dX6_follow_14 : decode cX6_follow 14 = .ok (.getfield 51, 3) := by decide +kernel
theorem dX6_follow_17 : decode cX6_follow 17 = .ok (.iconst 1, 1) := by decide +kernel
theorem dX6_follow_18 : decode cX6_follow 18 = .ok (.iadd, 1) := by decide +kernel
theorem dX6_follow_19 : decode cX6_follow 19 = .ok (.putfield 51, 3) := by decide +kernel
theorem dX6_follow_22 : decode cX6_follow 22 = .ok (.iload_n 1, 1) := by decide +kernel
theorem dX6_follow_23 : decode cX6_follow 23 = .ok (.bipush 109, 2) := by decide +kernel
theorem dX6_follow_25 : decode cX6_follow 25 = .ok (.if_icmp .ne 70, 3) := by decide +kernel
theorem dX6_follow_28 : decode cX6_follow 28 = .ok (.aload_n 0, 1) := by decide +kernel
theorem dX6_follow_29 : decode cX6_follow 29 = .ok (.ldc 115, 2) := by decide +kernel
theorem dX6_follow_31 : decode cX6_follow 31 = .ok (.invokevirtual 117, 3) := by decide +kernel
theorem dX6_follow_34 : decode cX6_follow 34 = .ok (.ifCond .eq 20, 3) := by decide +kernel
theorem dX6_follow_37 : decode cX6_follow 37 = .ok (.aload_n 0, 1) := by decide +kernel
theorem dX6_follow_38 : decode cX6_follow 38 = .ok (.getfield 47, 3) := by decide +kernel
theorem dX6_follow_41 : decode cX6_follow 41 = .ok (.ifnull 13, 3) := by decide +kernel
theorem dX6_follow_44 : decode cX6_follow 44 = .ok (.aload_n 0, 1) := by decide +kernel
theorem dX6_follow_45 : decode cX6_follow 45 = .ok (.getfield 47, 3) := by decide +kernel
theorem dX6_follow_48 : decode cX6_follow 48 = .ok (.iconst 1, 1) := by decide +kernel
theorem dX6_follow_49 : decode cX6_follow 49 = .ok (.putfield 121, 3) := by decide +kernel
theorem dX6_follow_52 : decode cX6_follow 52 = .ok (.iconst 0, 1) := by decide +kernel
theorem dX6_follow_53 : decode cX6_follow 53 = .ok (.ireturn, 1) := by decide +kernel
theorem dX6_follow_54 : decode cX6_follow 54 = .ok (.aload_n 0, 1) := by decide +kernel
theorem dX6_follow_55 : decode cX6_follow 55 = .ok (.getfield 51, 3) := by decide +kernel
theorem dX6_follow_58 : decode cX6_follow 58 = .ok (.aload_n 0, 1) := by decide +kernel
theorem dX6_follow_59 : decode cX6_follow 59 = .ok (.getfield 24, 3) := by decide +kernel
theorem dX6_follow_62 : decode cX6_follow 62 = .ok (.invokevirtual 68, 3) := by decide +kernel
theorem dX6_follow_65 : decode cX6_follow 65 = .ok (.if_icmp .ge 17, 3) := by decide +kernel
theorem dX6_follow_68 : decode cX6_follow 68 = .ok (.aload_n 0, 1) := by decide +kernel
theorem dX6_follow_69 : decode cX6_follow 69 = .ok (.getfield 24, 3) := by decide +kernel
theorem dX6_follow_72 : decode cX6_follow 72 = .ok (.aload_n 0, 1) := by decide +kernel
theorem dX6_follow_73 : decode cX6_follow 73 = .ok (.getfield 51, 3) := by decide +kernel
theorem dX6_follow_76 : decode cX6_follow 76 = .ok (.invokevirtual 111, 3) := by decide +kernel
theorem dX6_follow_79 : decode cX6_follow 79 = .ok (.goto 5, 3) := by decide +kernel
theorem dX6_follow_82 : decode cX6_follow 82 = .ok (.bipush 59, 2) := by decide +kernel
theorem dX6_follow_84 : decode cX6_follow 84 = .ok (.istore_n 1, 1) := by decide +kernel
theorem dX6_follow_85 : decode cX6_follow 85 = .ok (.aload_n 0, 1) := by decide +kernel
theorem dX6_follow_86 : decode cX6_follow 86 = .ok (.dup, 1) := by decide +kernel
theorem dX6_follow_87 : decode cX6_follow 87 = .ok (.getfield 51, 3) := by decide +kernel
theorem dX6_follow_90 : decode cX6_follow 90 = .ok (.iconst 1, 1) := by decide +kernel
theorem dX6_follow_91 : decode cX6_follow 91 = .ok (.iadd, 1) := by decide +kernel
theorem dX6_follow_92 : decode cX6_follow 92 = .ok (.putfield 51, 3) := by decide +kernel
theorem dX6_follow_95 : decode cX6_follow 95 = .ok (.iload_n 1, 1) := by decide +kernel
theorem dX6_follow_96 : decode cX6_follow 96 = .ok (.lookupswitch 141 #[(42, 105), (59, 76), (64, 90), (97, 135), (98, 135), (100, 135), (102, 120), (115, 135)], 76) := by decide +kernel
theorem dX6_follow_172 : decode cX6_follow 172 = .ok (.aload_n 0, 1) := by decide +kernel
theorem dX6_follow_173 : decode cX6_follow 173 = .ok (.getfield 76, 3) := by decide +kernel
theorem dX6_follow_176 : decode cX6_follow 176 = .ok (.iconst 3, 1) := by decide +kernel
theorem dX6_follow_177 : decode cX6_follow 177 = .ok (.if_icmp .ne 7, 3) := by decide +kernel
theorem dX6_follow_180 : decode cX6_follow 180 = .ok (.iconst 0, 1) := by decide +kernel
theorem dX6_follow_181 : decode cX6_follow 181 = .ok (.goto 4, 3) := by decide +kernel
theorem dX6_follow_184 : decode cX6_follow 184 = .ok (.iconst 2, 1) := by decide +kernel
theorem dX6_follow_185 : decode cX6_follow 185 = .ok (.ireturn, 1) := by decide +kernel
theorem dX6_follow_186 : decode cX6_follow 186 = .ok (.aload_n 0, 1) := by decide +kernel
theorem dX6_follow_187 : decode cX6_follow 187 = .ok (.ldc 124, 2) := by decide +kernel
theorem dX6_follow_189 : decode cX6_follow 189 = .ok (.invokevirtual 117, 3) := by decide +kernel
theorem dX6_follow_192 : decode cX6_follow 192 = .ok (.ifCond .eq 7, 3) := by decide +kernel
theorem dX6_follow_195 : decode cX6_follow 195 = .ok (.iconst 0, 1) := by decide +kernel
theorem dX6_follow_196 : decode cX6_follow 196 = .ok (.goto 4, 3) := by decide +kernel
theorem dX6_follow_199 : decode cX6_follow 199 = .ok (.iconst 2, 1) := by decide +kernel
theorem dX6_follow_200 : decode cX6_follow 200 = .ok (.ireturn, 1) := by decide +kernel
theorem dX6_follow_201 : decode cX6_follow 201 = .ok (.aload_n 0, 1) := by decide +kernel
theorem dX6_follow_202 : decode cX6_follow 202 = .ok (.ldc 126, 2) := by decide +kernel
theorem dX6_follow_204 : decode cX6_follow 204 = .ok (.invokevirtual 117, 3) := by decide +kernel
theorem dX6_follow_207 : decode cX6_follow 207 = .ok (.ifCond .eq 7, 3) := by decide +kernel
theorem dX6_follow_210 : decode cX6_follow 210 = .ok (.iconst 0, 1) := by decide +kernel
theorem dX6_follow_211 : decode cX6_follow 211 = .ok (.goto 4, 3) := by decide +kernel
theorem dX6_follow_214 : decode cX6_follow 214 = .ok (.iconst 2, 1) := by decide +kernel
theorem dX6_follow_215 : decode cX6_follow 215 = .ok (.ireturn, 1) := by decide +kernel
theorem dX6_follow_216 : decode cX6_follow 216 = .ok (.aload_n 0, 1) := by decide +kernel
theorem dX6_follow_217 : decode cX6_follow 217 = .ok (.ldc 128, 2) := by decide +kernel
theorem dX6_follow_219 : decode cX6_follow 219 = .ok (.invokevirtual 117, 3) := by decide +kernel
theorem dX6_follow_222 : decode cX6_follow 222 = .ok (.ifCond .eq 7, 3) := by decide +kernel
theorem dX6_follow_225 : decode cX6_follow 225 = .ok (.iconst 0, 1) := by decide +kernel
theorem dX6_follow_226 : decode cX6_follow 226 = .ok (.goto 4, 3) := by decide +kernel
theorem dX6_follow_229 : decode cX6_follow 229 = .ok (.iconst 2, 1) := by decide +kernel
theorem dX6_follow_230 : decode cX6_follow 230 = .ok (.ireturn, 1) := by decide +kernel
theorem dX6_follow_231 : decode cX6_follow 231 = .ok (.aload_n 0, 1) := by decide +kernel
theorem dX6_follow_232 : decode cX6_follow 232 = .ok (.iload_n 1, 1) := by decide +kernel
theorem dX6_follow_233 : decode cX6_follow 233 = .ok (.invokevirtual 130, 3) := by decide +kernel
theorem dX6_follow_236 : decode cX6_follow 236 = .ok (.ireturn, 1) := by decide +kernel
theorem dX6_follow_237 : decode cX6_follow 237 = .ok (.aload_n 0, 1) := by decide +kernel
theorem dX6_follow_238 : decode cX6_follow 238 = .ok (.iload_n 1, 1) := by decide +kernel
theorem dX6_follow_239 : decode cX6_follow 239 = .ok (.invokevirtual 134, 3) := by decide +kernel
theorem dX6_follow_242 : decode cX6_follow 242 = .ok (.ireturn, 1) := by decide +kernel
def pX6_follow_b95 (E : EC) (g : MT) (this : Nat) (l1 : Int32) (h : CT) : Option ((Int32) × CT) := if l1 = 42 then kR (E.1 53) fun a2 => (bd2 (pX6_isText E g h this a2) fun x5 h3 => (if x5 = 0 then some (2, h3) else some (0, h3))) else (if l1 = 59 then if (hI h this 6) = 3 then some (0, h) else some (2, h) else (if l1 = 64 then kR (E.1 52) fun a10 => (bd2 (pX6_isText E g h this a10) fun x13 h11 => (if x13 = 0 then some (2, h11) else some (0, h11))) else (if l1 = 97 then bd2 (pX6_followName g h this l1) fun x18 h16 => (some (x18, h16)) else (if l1 = 98 then bd2 (pX6_followName g h this l1) fun x22 h20 => (some (x22, h20)) else (if l1 = 100 then bd2 (pX6_followName g h this l1) fun x26 h24 => (some (x26, h24)) else (if l1 = 102 then kR (E.1 54) fun a28 => (bd2 (pX6_isText E g h this a28) fun x31 h29 => (if x31 = 0 then some (2, h29) else some (0, h29))) else (if l1 = 115 then bd2 (pX6_followName g h this l1) fun x36 h34 => (some (x36, h34)) else (bd2 (pX6_followNumber g h this l1) fun x39 h37 => (some (x39, h37))))))))))
set_option maxRecDepth 10000 in
set_option maxHeartbeats 4000000 in
theorem pX6_follow_b95_ok {X : Cx} {G : Gx} {dk : Nat} {g : MT} {r0 : Int32} {h0 : CT} {this : Nat} (Z : Zx X G cX6_follow RX6 2 dk (some .int) (some (.int r0)) g h0) (hK : 5 ≤ dk) {E : EC} (hE : G.2.2.2 = E) (t0 : gT g this = 5) (l1 : Int32) (h : CT) (hf : pX6_follow_b95 E g this l1 h = some (r0, h0)) : J X g h 95 [(0, va_rf (some this)), (1, .int l1)] [] := by
  unfold pX6_follow_b95 at hf
  refine J_iload_n Z.1 1 dX6_follow_95 rfl rfl ?_
  by_cases c1 : l1 = 42
  · rw [if_pos c1] at hf
    refine J_lookup (off := 105) Z.1 201 dX6_follow_96 (by decide) (by rw [c1]; decide) (by decide) ?_
    refine J_aload_n Z.1 0 dX6_follow_201 rfl rfl ?_
    replace hf := kR_i hf
    obtain ⟨a2, ea2, hf⟩ := hf
    refine J_ldcS (i := 3) Z.1 dX6_follow_202 rfl rfl rfl (zEv Z hE ea2) ?_
    replace hf := bd2_i hf
    obtain ⟨x5, h3, q4, hf⟩ := hf
    refine J_callV (ci := 4) (as := [va_rf (some a2)]) (rest := []) (sy := [.int x5]) Z.1 dX6_follow_204 cw_X6_117 (pX6_isText_ok G (dk - 1) (by omega) hE q4) rfl rfl t0 (zG Z) rfl (by decide) (zF Z (by omega)) (zO Z (by omega) (by decide)) (zM _) Z.2.1 Z.2.1 rfl rfl ?_
    refine J_if_eq Z.1 214 dX6_follow_207 (by decide) (fun c6 => ?_) (fun c6 => ?_)
    · rw [if_pos c6] at hf
      refine J_iconst Z.1 (v := 2) (by decide) dX6_follow_214 ?_
      cases hf
      exact J_iret Z.1 Z.2.2.2.2.2 dX6_follow_215
    · rw [if_neg c6] at hf
      refine J_iconst Z.1 (v := 0) (by decide) dX6_follow_210 ?_
      refine J_goto Z.1 215 dX6_follow_211 (by decide) ?_
      cases hf
      exact J_iret Z.1 Z.2.2.2.2.2 dX6_follow_215
  rw [if_neg c1] at hf
  by_cases c7 : l1 = 59
  · rw [if_pos c7] at hf
    refine J_lookup (off := 76) Z.1 172 dX6_follow_96 (by decide) (by rw [c7]; decide) (by decide) ?_
    refine J_aload_n Z.1 0 dX6_follow_172 rfl rfl ?_
    refine J_get (v := .int (hI h this 6)) Z.1 dX6_follow_173 fl_X6_76 t0 rfl ?_
    refine J_iconst Z.1 (v := 3) (by decide) dX6_follow_176 ?_
    refine J_icmp_ne Z.1 184 dX6_follow_177 (by decide) (fun c8 => ?_) (fun c8 => ?_)
    · rw [if_neg c8] at hf
      refine J_iconst Z.1 (v := 2) (by decide) dX6_follow_184 ?_
      cases hf
      exact J_iret Z.1 Z.2.2.2.2.2 dX6_follow_185
    · rw [if_pos c8] at hf
      refine J_iconst Z.1 (v := 0) (by decide) dX6_follow_180 ?_
      refine J_goto Z.1 185 dX6_follow_181 (by decide) ?_
      cases hf
      exact J_iret Z.1 Z.2.2.2.2.2 dX6_follow_185
  rw [if_neg c7] at hf
  by_cases c9 : l1 = 64
  · rw [if_pos c9] at hf
    refine J_lookup (off := 90) Z.1 186 dX6_follow_96 (by decide) (by rw [c9]; decide) (by decide) ?_
    refine J_aload_n Z.1 0 dX6_follow_186 rfl rfl ?_
    replace hf := kR_i hf
    obtain ⟨a10, ea10, hf⟩ := hf
    refine J_ldcS (i := 2) Z.1 dX6_follow_187 rfl rfl rfl (zEv Z hE ea10) ?_
    replace hf := bd2_i hf
    obtain ⟨x13, h11, q12, hf⟩ := hf
    refine J_callV (ci := 4) (as := [va_rf (some a10)]) (rest := []) (sy := [.int x13]) Z.1 dX6_follow_189 cw_X6_117 (pX6_isText_ok G (dk - 1) (by omega) hE q12) rfl rfl t0 (zG Z) rfl (by decide) (zF Z (by omega)) (zO Z (by omega) (by decide)) (zM _) Z.2.1 Z.2.1 rfl rfl ?_
    refine J_if_eq Z.1 199 dX6_follow_192 (by decide) (fun c14 => ?_) (fun c14 => ?_)
    · rw [if_pos c14] at hf
      refine J_iconst Z.1 (v := 2) (by decide) dX6_follow_199 ?_
      cases hf
      exact J_iret Z.1 Z.2.2.2.2.2 dX6_follow_200
    · rw [if_neg c14] at hf
      refine J_iconst Z.1 (v := 0) (by decide) dX6_follow_195 ?_
      refine J_goto Z.1 200 dX6_follow_196 (by decide) ?_
      cases hf
      exact J_iret Z.1 Z.2.2.2.2.2 dX6_follow_200
  rw [if_neg c9] at hf
  by_cases c15 : l1 = 97
  · rw [if_pos c15] at hf
    refine J_lookup (off := 135) Z.1 231 dX6_follow_96 (by decide) (by rw [c15]; decide) (by decide) ?_
    refine J_aload_n Z.1 0 dX6_follow_231 rfl rfl ?_
    refine J_iload_n Z.1 1 dX6_follow_232 rfl rfl ?_
    replace hf := bd2_i hf
    obtain ⟨x18, h16, q17, hf⟩ := hf
    refine J_callV (ci := 4) (as := [.int l1]) (rest := []) (sy := [.int x18]) Z.1 dX6_follow_233 cw_X6_130 (pX6_followName_ok G (dk - 1) (by omega) q17) rfl rfl t0 (zG Z) rfl (by decide) (zF Z (by omega)) (zO Z (by omega) (by decide)) (zM _) Z.2.1 Z.2.1 rfl rfl ?_
    cases hf
    exact J_iret Z.1 Z.2.2.2.2.2 dX6_follow_236
  rw [if_neg c15] at hf
  by_cases c19 : l1 = 98
  · rw [if_pos c19] at hf
    refine J_lookup (off := 135) Z.1 231 dX6_follow_96 (by decide) (by rw [c19]; decide) (by decide) ?_
    refine J_aload_n Z.1 0 dX6_follow_231 rfl rfl ?_
    refine J_iload_n Z.1 1 dX6_follow_232 rfl rfl ?_
    replace hf := bd2_i hf
    obtain ⟨x22, h20, q21, hf⟩ := hf
    refine J_callV (ci := 4) (as := [.int l1]) (rest := []) (sy := [.int x22]) Z.1 dX6_follow_233 cw_X6_130 (pX6_followName_ok G (dk - 1) (by omega) q21) rfl rfl t0 (zG Z) rfl (by decide) (zF Z (by omega)) (zO Z (by omega) (by decide)) (zM _) Z.2.1 Z.2.1 rfl rfl ?_
    cases hf
    exact J_iret Z.1 Z.2.2.2.2.2 dX6_follow_236
  rw [if_neg c19] at hf
  by_cases c23 : l1 = 100
  · rw [if_pos c23] at hf
    refine J_lookup (off := 135) Z.1 231 dX6_follow_96 (by decide) (by rw [c23]; decide) (by decide) ?_
    refine J_aload_n Z.1 0 dX6_follow_231 rfl rfl ?_
    refine J_iload_n Z.1 1 dX6_follow_232 rfl rfl ?_
    replace hf := bd2_i hf
    obtain ⟨x26, h24, q25, hf⟩ := hf
    refine J_callV (ci := 4) (as := [.int l1]) (rest := []) (sy := [.int x26]) Z.1 dX6_follow_233 cw_X6_130 (pX6_followName_ok G (dk - 1) (by omega) q25) rfl rfl t0 (zG Z) rfl (by decide) (zF Z (by omega)) (zO Z (by omega) (by decide)) (zM _) Z.2.1 Z.2.1 rfl rfl ?_
    cases hf
    exact J_iret Z.1 Z.2.2.2.2.2 dX6_follow_236
  rw [if_neg c23] at hf
  by_cases c27 : l1 = 102
  · rw [if_pos c27] at hf
    refine J_lookup (off := 120) Z.1 216 dX6_follow_96 (by decide) (by rw [c27]; decide) (by decide) ?_
    refine J_aload_n Z.1 0 dX6_follow_216 rfl rfl ?_
    replace hf := kR_i hf
    obtain ⟨a28, ea28, hf⟩ := hf
    refine J_ldcS (i := 4) Z.1 dX6_follow_217 rfl rfl rfl (zEv Z hE ea28) ?_
    replace hf := bd2_i hf
    obtain ⟨x31, h29, q30, hf⟩ := hf
    refine J_callV (ci := 4) (as := [va_rf (some a28)]) (rest := []) (sy := [.int x31]) Z.1 dX6_follow_219 cw_X6_117 (pX6_isText_ok G (dk - 1) (by omega) hE q30) rfl rfl t0 (zG Z) rfl (by decide) (zF Z (by omega)) (zO Z (by omega) (by decide)) (zM _) Z.2.1 Z.2.1 rfl rfl ?_
    refine J_if_eq Z.1 229 dX6_follow_222 (by decide) (fun c32 => ?_) (fun c32 => ?_)
    · rw [if_pos c32] at hf
      refine J_iconst Z.1 (v := 2) (by decide) dX6_follow_229 ?_
      cases hf
      exact J_iret Z.1 Z.2.2.2.2.2 dX6_follow_230
    · rw [if_neg c32] at hf
      refine J_iconst Z.1 (v := 0) (by decide) dX6_follow_225 ?_
      refine J_goto Z.1 230 dX6_follow_226 (by decide) ?_
      cases hf
      exact J_iret Z.1 Z.2.2.2.2.2 dX6_follow_230
  rw [if_neg c27] at hf
  by_cases c33 : l1 = 115
  · rw [if_pos c33] at hf
    refine J_lookup (off := 135) Z.1 231 dX6_follow_96 (by decide) (by rw [c33]; decide) (by decide) ?_
    refine J_aload_n Z.1 0 dX6_follow_231 rfl rfl ?_
    refine J_iload_n Z.1 1 dX6_follow_232 rfl rfl ?_
    replace hf := bd2_i hf
    obtain ⟨x36, h34, q35, hf⟩ := hf
    refine J_callV (ci := 4) (as := [.int l1]) (rest := []) (sy := [.int x36]) Z.1 dX6_follow_233 cw_X6_130 (pX6_followName_ok G (dk - 1) (by omega) q35) rfl rfl t0 (zG Z) rfl (by decide) (zF Z (by omega)) (zO Z (by omega) (by decide)) (zM _) Z.2.1 Z.2.1 rfl rfl ?_
    cases hf
    exact J_iret Z.1 Z.2.2.2.2.2 dX6_follow_236
  rw [if_neg c33] at hf
  have hout : Op.lookupswitch.offset [(42, 105), (59, 76), (64, 90), (97, 135), (98, 135), (100, 135), (102, 120), (115, 135)] 141 l1.toInt = 141 := by rw [lv_osw c1 (by decide), lv_osw c7 (by decide), lv_osw c9 (by decide), lv_osw c15 (by decide), lv_osw c19 (by decide), lv_osw c23 (by decide), lv_osw c27 (by decide), lv_osw c33 (by decide)]; rfl
  refine J_lookup (off := 141) Z.1 237 dX6_follow_96 (by decide) hout (by decide) ?_
  refine J_aload_n Z.1 0 dX6_follow_237 rfl rfl ?_
  refine J_iload_n Z.1 1 dX6_follow_238 rfl rfl ?_
  replace hf := bd2_i hf
  obtain ⟨x39, h37, q38, hf⟩ := hf
  refine J_callV (ci := 4) (as := [.int l1]) (rest := []) (sy := [.int x39]) Z.1 dX6_follow_239 cw_X6_134 (pX6_followNumber_ok G (dk - 1) (by omega) q38) rfl rfl t0 (zG Z) rfl (by decide) (zF Z (by omega)) (zO Z (by omega) (by decide)) (zM _) Z.2.1 Z.2.1 rfl rfl ?_
  cases hf
  exact J_iret Z.1 Z.2.2.2.2.2 dX6_follow_242
def pX6_follow_b84 (E : EC) (g : MT) (this : Nat) (s0 : Int32) (h : CT) : Option ((Int32) × CT) := lt (sI h this 10 ((hI h this 10) + 1)) fun h1 => (pX6_follow_b95 E g this  s0 h1)
set_option maxRecDepth 10000 in
set_option maxHeartbeats 4000000 in
theorem pX6_follow_b84_ok {X : Cx} {G : Gx} {dk : Nat} {g : MT} {r0 : Int32} {h0 : CT} {this : Nat} (Z : Zx X G cX6_follow RX6 2 dk (some .int) (some (.int r0)) g h0) (hK : 5 ≤ dk) {E : EC} (hE : G.2.2.2 = E) (t0 : gT g this = 5) (s0 : Int32) (h : CT) (hf : pX6_follow_b84 E g this s0 h = some (r0, h0)) : J X g h 84 [(0, va_rf (some this))] [.int s0] := by
  unfold pX6_follow_b84 at hf
  refine J_istore_n Z.1 (lv2 := [(1, .int s0), (0, va_rf (some this))]) dX6_follow_84 rfl (zL Z (by decide)) rfl ?_
  refine J_aload_n Z.1 1 dX6_follow_85 rfl rfl ?_
  refine J_dup Z.1 dX6_follow_86 rfl ?_
  refine J_get (v := .int (hI h this 10)) Z.1 dX6_follow_87 fl_X6_51 t0 rfl ?_
  refine J_iconst Z.1 (v := 1) (by decide) dX6_follow_90 ?_
  refine J_iadd Z.1 dX6_follow_91 ?_
  refine J_putI Z.1 dX6_follow_92 fl_X6_51 (fun q => by cases q) t0 rfl rfl (congrArg Value.int (hI_s _ _ _ _)) ?_
  refine J_th (fun h1 eh1 => ?_)
  replace hf := lt_i hf h1 eh1
  refine J_lv [1, 0] rfl ?_
  exact pX6_follow_b95_ok Z hK hE t0  _ _ hf
def pX6_follow_b54 (E : EC) (g : MT) (this : Nat) (h : CT) : Option ((Int32) × CT) := lt (hR h this 9) fun r1 => (nn r1 fun a1 => (tg E.2.2 a1 61 (bd (pJ0_length_8abf5 E g h a1) fun x3 => (if x3 ≤ (hI h this 10) then pX6_follow_b84 E g this  59 h else lt (hR h this 9) fun r6 => (nn r6 fun a6 => (tg E.2.2 a6 61 (bd2 (pJ0_charAt_5068e E g h a6 (hI h this 10)) fun x10 h8 => (pX6_follow_b84 E g this  x10 h8))))))))
set_option maxRecDepth 10000 in
set_option maxHeartbeats 4000000 in
theorem pX6_follow_b54_ok {X : Cx} {G : Gx} {dk : Nat} {g : MT} {r0 : Int32} {h0 : CT} {this : Nat} (Z : Zx X G cX6_follow RX6 2 dk (some .int) (some (.int r0)) g h0) (hK : 5 ≤ dk) {E : EC} (hE : G.2.2.2 = E) (t0 : gT g this = 5) (h : CT) (hf : pX6_follow_b54 E g this h = some (r0, h0)) : J X g h 54 [(0, va_rf (some this))] [] := by
  unfold pX6_follow_b54 at hf
  refine J_aload_n Z.1 0 dX6_follow_54 rfl rfl ?_
  refine J_get (v := .int (hI h this 10)) Z.1 dX6_follow_55 fl_X6_51 t0 rfl ?_
  refine J_aload_n Z.1 0 dX6_follow_58 rfl rfl ?_
  refine J_get (v := va_rf (hR h this 9)) Z.1 dX6_follow_59 fl_X6_24 t0 rfl ?_
  refine J_tr (fun r1 er1 => ?_)
  replace hf := lt_i hf r1 er1
  replace hf := nn_i hf
  obtain ⟨a1, rfl, hf⟩ := hf
  replace hf := tg_i hf
  obtain ⟨t2, hf⟩ := hf
  rw [← zE Z hE] at t2
  replace hf := bd_i hf
  obtain ⟨x3, q4, hf⟩ := hf
  refine J_callK (as := []) (rest := [.int (hI h this 10)]) (sy := [.int x3, .int (hI h this 10)]) Z.1 dX6_follow_62 cw_X6_68 (pJ0_length_8abf5_ok G (dk - 1) (by omega) hE q4) (kT Z.1 t2) (zG Z) rfl (by simp [cat_i, cat_l, cat_d, cat_rf]) (zF Z (by omega)) (zO Z (by omega) (by decide)) (zM _) Z.2.1 Z.2.1 rfl rfl ?_
  refine J_icmp_ge Z.1 82 dX6_follow_65 (by decide) (fun c5 => ?_) (fun c5 => ?_)
  · rw [if_pos c5] at hf
    refine J_bipush Z.1 (v := 59) (by decide) dX6_follow_82 ?_
    exact pX6_follow_b84_ok Z hK hE t0  _ _ hf
  · rw [if_neg c5] at hf
    refine J_aload_n Z.1 0 dX6_follow_68 rfl rfl ?_
    refine J_get (v := va_rf (hR h this 9)) Z.1 dX6_follow_69 fl_X6_24 t0 rfl ?_
    refine J_tr (fun r6 er6 => ?_)
    replace hf := lt_i hf r6 er6
    refine J_aload_n Z.1 0 dX6_follow_72 rfl rfl ?_
    refine J_get (v := .int (hI h this 10)) Z.1 dX6_follow_73 fl_X6_51 t0 rfl ?_
    replace hf := nn_i hf
    obtain ⟨a6, rfl, hf⟩ := hf
    replace hf := tg_i hf
    obtain ⟨t7, hf⟩ := hf
    rw [← zE Z hE] at t7
    replace hf := bd2_i hf
    obtain ⟨x10, h8, q9, hf⟩ := hf
    refine J_callK (as := [.int (hI h this 10)]) (rest := []) (sy := [.int x10]) Z.1 dX6_follow_76 cw_X6_111 (pJ0_charAt_5068e_ok G (dk - 1) (by omega) hE q9) (kT Z.1 t7) (zG Z) rfl (by decide) (zF Z (by omega)) (zO Z (by omega) (by decide)) (zM _) Z.2.1 Z.2.1 rfl rfl ?_
    refine J_goto Z.1 84 dX6_follow_79 (by decide) ?_
    exact pX6_follow_b84_ok Z hK hE t0  _ _ hf
def pX6_follow (E : EC) (g : MT) (h : CT) (this : Nat) : Option ((Int32) × CT) := tg g this 5 (lt (hR h this 9) fun r1 => (nn r1 fun a1 => (tg E.2.2 a1 61 (bd2 (pJ0_charAt_5068e E g h a1 (hI h this 10)) fun x5 h3 => (lt (sI h3 this 10 ((hI h3 this 10) + 1)) fun h6 => (if x5 = 109 then kR (E.1 51) fun a8 => (bd2 (pX6_isText E g h6 this a8) fun x11 h9 => (if x11 = 0 then pX6_follow_b54 E g this  h9 else lt (hR h9 this 8) fun r13 => (if r13 = none then pX6_follow_b54 E g this  h9 else lt (hR h9 this 8) fun r15 => (nn r15 fun a15 => (tg g a15 2 (lt (sI h9 a15 8 1) fun h17 => (some (0, h17)))))))) else pX6_follow_b95 E g this  x5 h6))))))
set_option maxRecDepth 10000 in
set_option maxHeartbeats 4000000 in
theorem pX6_follow_ok (G : Gx) (dk : Nat) (hK : 5 ≤ dk) {g : MT} {E : EC} (hE : G.2.2.2 = E) {h h0 : CT} {this : Nat} {r0 : Int32} (hf : pX6_follow E g h this = some (r0, h0)) : Ctr G dk yX6_follow cX6_follow 2 (some .int) [va_rf (some this)] g h (some (.int r0)) g h0 := by
  refine Ctr.ofZ (lv := [(0, va_rf (some this))]) (by decide +kernel) (by simp [cat_i, cat_l, cat_d, cat_rf]) rfl fun X Z => ?_
  unfold pX6_follow at hf
  replace hf := tg_i hf
  obtain ⟨t0, hf⟩ := hf
  refine J_aload_n Z.1 0 dX6_follow_0 rfl rfl ?_
  refine J_get (v := va_rf (hR h this 9)) Z.1 dX6_follow_1 fl_X6_24 t0 rfl ?_
  refine J_tr (fun r1 er1 => ?_)
  replace hf := lt_i hf r1 er1
  refine J_aload_n Z.1 0 dX6_follow_4 rfl rfl ?_
  refine J_get (v := .int (hI h this 10)) Z.1 dX6_follow_5 fl_X6_51 t0 rfl ?_
  replace hf := nn_i hf
  obtain ⟨a1, rfl, hf⟩ := hf
  replace hf := tg_i hf
  obtain ⟨t2, hf⟩ := hf
  rw [← zE Z hE] at t2
  replace hf := bd2_i hf
  obtain ⟨x5, h3, q4, hf⟩ := hf
  refine J_callK (as := [.int (hI h this 10)]) (rest := []) (sy := [.int x5]) Z.1 dX6_follow_8 cw_X6_111 (pJ0_charAt_5068e_ok G (dk - 1) (by omega) hE q4) (kT Z.1 t2) (zG Z) rfl (by decide) (zF Z (by omega)) (zO Z (by omega) (by decide)) (zM _) Z.2.1 Z.2.1 rfl rfl ?_
  refine J_istore_n Z.1 (lv2 := [(1, .int x5), (0, va_rf (some this))]) dX6_follow_11 rfl (zL Z (by decide)) rfl ?_
  refine J_aload_n Z.1 1 dX6_follow_12 rfl rfl ?_
  refine J_dup Z.1 dX6_follow_13 rfl ?_
  refine J_get (v := .int (hI h3 this 10)) Z.1 dX6_follow_14 fl_X6_51 t0 rfl ?_
  refine J_iconst Z.1 (v := 1) (by decide) dX6_follow_17 ?_
  refine J_iadd Z.1 dX6_follow_18 ?_
  refine J_putI Z.1 dX6_follow_19 fl_X6_51 (fun q => by cases q) t0 rfl rfl (congrArg Value.int (hI_s _ _ _ _)) ?_
  refine J_th (fun h6 eh6 => ?_)
  replace hf := lt_i hf h6 eh6
  refine J_iload_n Z.1 0 dX6_follow_22 rfl rfl ?_
  refine J_bipush Z.1 (v := 109) (by decide) dX6_follow_23 ?_
  refine J_icmp_ne Z.1 95 dX6_follow_25 (by decide) (fun c7 => ?_) (fun c7 => ?_)
  · rw [if_neg c7] at hf
    refine J_lv [1, 0] rfl ?_
    exact pX6_follow_b95_ok Z hK hE t0  _ _ hf
  · rw [if_pos c7] at hf
    refine J_aload_n Z.1 1 dX6_follow_28 rfl rfl ?_
    replace hf := kR_i hf
    obtain ⟨a8, ea8, hf⟩ := hf
    refine J_ldcS (i := 1) Z.1 dX6_follow_29 rfl rfl rfl (zEv Z hE ea8) ?_
    replace hf := bd2_i hf
    obtain ⟨x11, h9, q10, hf⟩ := hf
    refine J_callV (ci := 4) (as := [va_rf (some a8)]) (rest := []) (sy := [.int x11]) Z.1 dX6_follow_31 cw_X6_117 (pX6_isText_ok G (dk - 1) (by omega) hE q10) rfl rfl t0 (zG Z) rfl (by decide) (zF Z (by omega)) (zO Z (by omega) (by decide)) (zM _) Z.2.1 Z.2.1 rfl rfl ?_
    refine J_if_eq Z.1 54 dX6_follow_34 (by decide) (fun c12 => ?_) (fun c12 => ?_)
    · rw [if_pos c12] at hf
      refine J_lv [1] rfl ?_
      exact pX6_follow_b54_ok Z hK hE t0  _ hf
    · rw [if_neg c12] at hf
      refine J_aload_n Z.1 1 dX6_follow_37 rfl rfl ?_
      refine J_get (v := va_rf (hR h9 this 8)) Z.1 dX6_follow_38 fl_X6_47 t0 rfl ?_
      refine J_tr (fun r13 er13 => ?_)
      replace hf := lt_i hf r13 er13
      refine J_ifnull Z.1 54 dX6_follow_41 (by decide) (fun c14 => ?_) (fun c14 => ?_)
      · rw [if_pos c14] at hf
        refine J_lv [1] rfl ?_
        exact pX6_follow_b54_ok Z hK hE t0  _ hf
      · rw [if_neg c14] at hf
        refine J_aload_n Z.1 1 dX6_follow_44 rfl rfl ?_
        refine J_get (v := va_rf (hR h9 this 8)) Z.1 dX6_follow_45 fl_X6_47 t0 rfl ?_
        refine J_tr (fun r15 er15 => ?_)
        replace hf := lt_i hf r15 er15
        refine J_iconst Z.1 (v := 1) (by decide) dX6_follow_48 ?_
        replace hf := nn_i hf
        obtain ⟨a15, rfl, hf⟩ := hf
        replace hf := tg_i hf
        obtain ⟨t16, hf⟩ := hf
        refine J_putI Z.1 dX6_follow_49 fl_X6_121 (fun q => by cases q) t16 (z_n (Or.inr rfl)) (z_f (Or.inr rfl)) (congrArg Value.int (hI_s _ _ _ _)) ?_
        refine J_th (fun h17 eh17 => ?_)
        replace hf := lt_i hf h17 eh17
        refine J_iconst Z.1 (v := 0) (by decide) dX6_follow_52 ?_
        cases hf
        exact J_iret Z.1 Z.2.2.2.2.2 dX6_follow_53
