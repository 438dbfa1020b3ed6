/-! written by wip/whole/gen.py out of the printed bytecode -/
theorem dX10_operandsReady_0 : decode cX10_operandsReady 0 = .ok (.iconst 0, 1) := by decide +kernel
theorem dX10_operandsReady_1 : decode cX10_operandsReady 1 = .ok (.istore_n 3, 1) := by decide +kernel
theorem dX10_operandsReady_2 : decode cX10_operandsReady 2 = .ok (.aload_n 1, 1) := by decide +kernel
theorem dX10_operandsReady_3 : decode cX10_operandsReady 3 = .ok (.getfield 86, 3) := by decide +kernel
theorem dX10_operandsReady_6 : decode cX10_operandsReady 6 = .ok (.iconst 1, 1) := by decide +kernel
theorem dX10_operandsReady_7 : decode cX10_operandsReady 7 = .ok (.invokevirtual 101, 3) := by decide +kernel
theorem dX10_operandsReady_10 : decode cX10_operandsReady 10 = .ok (.ifCond .eq 17, 3) := by decide +kernel
theorem dX10_operandsReady_13 : decode cX10_operandsReady 13 = .ok (.iload_n 3, 1) := by decide +kernel
theorem dX10_operandsReady_14 : decode cX10_operandsReady 14 = .ok (.aload_n 0, 1) := by decide +kernel
theorem dX10_operandsReady_15 : decode cX10_operandsReady 15 = .ok (.aload_n 1, 1) := by decide +kernel
theorem dX10_operandsReady_16 : decode cX10_operandsReady 16 = .ok (.getfield 118, 3) := by decide +kernel
theorem dX10_operandsReady_19 : decode cX10_operandsReady 19 = .ok (.iload_n 2, 1) := by decide +kernel
theorem dX10_operandsReady_20 : decode cX10_operandsReady 20 = .ok (.invokevirtual 144, 3) := by decide +kernel
theorem dX10_operandsReady_23 : decode cX10_operandsReady 23 = .ok (.invokestatic 77, 3) := by decide +kernel
theorem dX10_operandsReady_26 : decode cX10_operandsReady 26 = .ok (.istore_n 3, 1) := by decide +kernel
theorem dX10_operandsReady_27 : decode cX10_operandsReady 27 = .ok (.aload_n 1, 1) := by decide +kernel
theorem dX10_operandsReady_28 : decode cX10_operandsReady 28 = .ok (.getfield 86, 3) := by decide +kernel
theorem dX10_operandsReady_31 : decode cX10_operandsReady 31 = .ok (.iconst 4, 1) := by decide +kernel
theorem dX10_operandsReady_32 : decode cX10_operandsReady 32 = .ok (.invokevirtual 101, 3) := by decide +kernel
theorem dX10_operandsReady_35 : decode cX10_operandsReady 35 = .ok (.ifCond .eq 17, 3) := by decide +kernel
theorem dX10_operandsReady_38 : decode cX10_operandsReady 38 = .ok (.iload_n 3, 1) := by decide +kernel
theorem dX10_operandsReady_39 : decode cX10_operandsReady 39 = .ok (.aload_n 0, 1) := by decide +kernel
theorem dX10_operandsReady_40 : decode cX10_operandsReady 40 = .ok (.aload_n 1, 1) := by decide +kernel
theorem dX10_operandsReady_41 : decode cX10_operandsReady 41 = .ok (.getfield 147, 3) := by decide +kernel
theorem dX10_operandsReady_44 : decode cX10_operandsReady 44 = .ok (.iload_n 2, 1) := by decide +kernel
theorem dX10_operandsReady_45 : decode cX10_operandsReady 45 = .ok (.invokevirtual 144, 3) := by decide +kernel
theorem dX10_operandsReady_48 : decode cX10_operandsReady 48 = .ok (.invokestatic 77, 3) := by decide +kernel
theorem dX10_operandsReady_51 : decode cX10_operandsReady 51 = .ok (.istore_n 3, 1) := by decide +kernel
theorem dX10_operandsReady_52 : decode cX10_operandsReady 52 = .ok (.aload_n 1, 1) := by decide +kernel
theorem dX10_operandsReady_53 : decode cX10_operandsReady 53 = .ok (.getfield 86, 3) := by decide +kernel
theorem dX10_operandsReady_56 : decode cX10_operandsReady 56 = .ok (.bipush 8, 2) := by decide +kernel
theorem dX10_operandsReady_58 : decode cX10_operandsReady 58 = .ok (.invokevirtual 101, 3) := by decide +kernel
theorem dX10_operandsReady_61 : decode cX10_operandsReady 61 = .ok (.ifCond .eq 17, 3) := by decide +kernel
theorem dX10_operandsReady_64 : decode cX10_operandsReady 64 = .ok (.iload_n 3, 1) := by decide +kernel
theorem dX10_operandsReady_65 : decode cX10_operandsReady 65 = .ok (.aload_n 0, 1) := by decide +kernel
theorem dX10_operandsReady_66 : decode cX10_operandsReady 66 = .ok (.aload_n 1, 1) := by decide +kernel
theorem dX10_operandsReady_67 : decode cX10_operandsReady 67 = .ok (.getfield 150, 3) := by decide +kernel
theorem dX10_operandsReady_70 : decode cX10_operandsReady 70 = .ok (.iload_n 2, 1) := by decide +kernel
theorem dX10_operandsReady_71 : decode cX10_operandsReady 71 = .ok (.invokevirtual 144, 3) := by decide +kernel
theorem dX10_operandsReady_74 : decode cX10_operandsReady 74 = .ok (.invokestatic 77, 3) := by decide +kernel
theorem dX10_operandsReady_77 : decode cX10_operandsReady 77 = .ok (.istore_n 3, 1) := by decide +kernel
theorem dX10_operandsReady_78 : decode cX10_operandsReady 78 = .ok (.iload_n 3, 1) := by decide +kernel
theorem dX10_operandsReady_79 : decode cX10_operandsReady 79 = .ok (.ireturn, 1) := by decide +kernel
def pX10_operandsReady_b52 (E : EC) (g : MT) (h : CT) (this : Nat) (p1 : Nat) (p2 : Int32) (l3 : Int32) : Option Int32 := tg g p1 2 (lt (hR h p1 0) fun r2 => (nn r2 fun a2 => (tg E.2.2 a2 60 (bd (pX5_does E g h a2 8) fun x4 => (if x4 = 0 then some l3 else bd (pX10_readyAt g h this (hI h p1 3) p2) fun x7 => (lt (pJ9_max_7cf53 l3 x7) fun x9 => (some x9)))))))
set_option maxRecDepth 10000 in
set_option maxHeartbeats 4000000 in
theorem pX10_operandsReady_b52_ok {X : Cx} {G : Gx} {dk : Nat} {g : MT} {r0 : Int32} {h : CT} {this : Nat} {p1 : Nat} {p2 : Int32} (Z : Zx X G cX10_operandsReady RX10 4 dk (some .int) (some (.int r0)) g h) (hK : 2 ≤ dk) {E : EC} (hE : G.2.2.2 = E) (t0 : gT g this = 9) (l3 : Int32) (hf : pX10_operandsReady_b52 E g h this p1 p2 l3 = some r0) : J X g h 52 [(0, va_rf (some this)), (1, va_rf (some p1)), (2, .int p2), (3, .int l3)] [] := by
  unfold pX10_operandsReady_b52 at hf
  refine J_aload_n Z.1 1 dX10_operandsReady_52 rfl rfl ?_
  replace hf := tg_i hf
  obtain ⟨t1, hf⟩ := hf
  refine J_get (v := va_rf (hR h p1 0)) Z.1 dX10_operandsReady_53 fl_X10_86 t1 rfl ?_
  refine J_tr (fun r2 er2 => ?_)
  replace hf := lt_i hf r2 er2
  refine J_bipush Z.1 (v := 8) (by decide) dX10_operandsReady_56 ?_
  replace hf := nn_i hf
  obtain ⟨a2, rfl, hf⟩ := hf
  replace hf := tg_i hf
  obtain ⟨t3, hf⟩ := hf
  rw [← zE Z hE] at t3
  replace hf := bd_i hf
  obtain ⟨x4, q5, hf⟩ := hf
  refine J_callK (as := [.int 8]) (rest := []) (sy := [.int x4]) Z.1 dX10_operandsReady_58 cw_X10_101 (pX5_does_ok G (dk - 1) (by omega) hE q5) (kO Z.1 t3) (zG Z) rfl (by decide) (zF Z (by omega)) (zO Z (by omega) (by decide)) (zM _) Z.2.1 Z.2.1 rfl rfl ?_
  refine J_if_eq Z.1 78 dX10_operandsReady_61 (by decide) (fun c6 => ?_) (fun c6 => ?_)
  · rw [if_pos c6] at hf
    refine J_iload_n Z.1 3 dX10_operandsReady_78 rfl rfl ?_
    cases hf
    exact J_iret Z.1 Z.2.2.2.2.2 dX10_operandsReady_79
  · rw [if_neg c6] at hf
    refine J_iload_n Z.1 3 dX10_operandsReady_64 rfl rfl ?_
    refine J_aload_n Z.1 0 dX10_operandsReady_65 rfl rfl ?_
    refine J_aload_n Z.1 1 dX10_operandsReady_66 rfl rfl ?_
    refine J_get (v := .int (hI h p1 3)) Z.1 dX10_operandsReady_67 fl_X10_150 t1 rfl ?_
    refine J_iload_n Z.1 2 dX10_operandsReady_70 rfl rfl ?_
    replace hf := bd_i hf
    obtain ⟨x7, q8, hf⟩ := hf
    refine J_callV (ci := 8) (as := [.int (hI h p1 3), .int p2]) (rest := [.int l3]) (sy := [.int x7, .int l3]) Z.1 dX10_operandsReady_71 cw_X10_144 (pX10_readyAt_ok G (dk - 1) (by omega) q8) rfl rfl t0 (zG Z) rfl (by simp [cat_i, cat_l, cat_d, cat_rf]) (zF Z (by omega)) (zO Z (by omega) (by decide)) (zM _) Z.2.1 Z.2.1 rfl rfl ?_
    refine J_callS (as := [.int l3, .int x7]) (rest := []) (sy := [.int (pJ9_max_7cf53 l3 x7)]) Z.1 dX10_operandsReady_74 cw_X10_77 (pJ9_max_7cf53_ok G (dk - 1) (by omega) g h l3 x7) (zG Z) rfl (by decide) (zF Z (by omega)) (zO Z (by omega) (by decide)) (zM _) Z.2.1 Z.2.1 rfl rfl ?_
    refine J_ti (fun x9 ex9 => ?_)
    replace hf := lt_i hf x9 ex9
    refine J_istore_n Z.1 (lv2 := [(3, .int x9), (0, va_rf (some this)), (1, va_rf (some p1)), (2, .int p2)]) dX10_operandsReady_77 rfl (zL Z (by decide)) rfl ?_
    refine J_iload_n Z.1 0 dX10_operandsReady_78 rfl rfl ?_
    cases hf
    exact J_iret Z.1 Z.2.2.2.2.2 dX10_operandsReady_79
def pX10_operandsReady_b27 (E : EC) (g : MT) (h : CT) (this : Nat) (p1 : Nat) (p2 : Int32) (l3 : Int32) : Option Int32 := tg g p1 2 (lt (hR h p1 0) fun r2 => (nn r2 fun a2 => (tg E.2.2 a2 60 (bd (pX5_does E g h a2 4) fun x4 => (if x4 = 0 then pX10_operandsReady_b52 E g h this p1 p2  l3 else bd (pX10_readyAt g h this (hI h p1 2) p2) fun x7 => (lt (pJ9_max_7cf53 l3 x7) fun x9 => (pX10_operandsReady_b52 E g h this p1 p2  x9)))))))
set_option maxRecDepth 10000 in
set_option maxHeartbeats 4000000 in
theorem pX10_operandsReady_b27_ok {X : Cx} {G : Gx} {dk : Nat} {g : MT} {r0 : Int32} {h : CT} {this : Nat} {p1 : Nat} {p2 : Int32} (Z : Zx X G cX10_operandsReady RX10 4 dk (some .int) (some (.int r0)) g h) (hK : 2 ≤ dk) {E : EC} (hE : G.2.2.2 = E) (t0 : gT g this = 9) (l3 : Int32) (hf : pX10_operandsReady_b27 E g h this p1 p2 l3 = some r0) : J X g h 27 [(0, va_rf (some this)), (1, va_rf (some p1)), (2, .int p2), (3, .int l3)] [] := by
  unfold pX10_operandsReady_b27 at hf
  refine J_aload_n Z.1 1 dX10_operandsReady_27 rfl rfl ?_
  replace hf := tg_i hf
  obtain ⟨t1, hf⟩ := hf
  refine J_get (v := va_rf (hR h p1 0)) Z.1 dX10_operandsReady_28 fl_X10_86 t1 rfl ?_
  refine J_tr (fun r2 er2 => ?_)
  replace hf := lt_i hf r2 er2
  refine J_iconst Z.1 (v := 4) (by decide) dX10_operandsReady_31 ?_
  replace hf := nn_i hf
  obtain ⟨a2, rfl, hf⟩ := hf
  replace hf := tg_i hf
  obtain ⟨t3, hf⟩ := hf
  rw [← zE Z hE] at t3
  replace hf := bd_i hf
  obtain ⟨x4, q5, hf⟩ := hf
  refine J_callK (as := [.int 4]) (rest := []) (sy := [.int x4]) Z.1 dX10_operandsReady_32 cw_X10_101 (pX5_does_ok G (dk - 1) (by omega) hE q5) (kO Z.1 t3) (zG Z) rfl (by decide) (zF Z (by omega)) (zO Z (by omega) (by decide)) (zM _) Z.2.1 Z.2.1 rfl rfl ?_
  refine J_if_eq Z.1 52 dX10_operandsReady_35 (by decide) (fun c6 => ?_) (fun c6 => ?_)
  · rw [if_pos c6] at hf
    exact pX10_operandsReady_b52_ok Z hK hE t0  _ hf
  · rw [if_neg c6] at hf
    refine J_iload_n Z.1 3 dX10_operandsReady_38 rfl rfl ?_
    refine J_aload_n Z.1 0 dX10_operandsReady_39 rfl rfl ?_
    refine J_aload_n Z.1 1 dX10_operandsReady_40 rfl rfl ?_
    refine J_get (v := .int (hI h p1 2)) Z.1 dX10_operandsReady_41 fl_X10_147 t1 rfl ?_
    refine J_iload_n Z.1 2 dX10_operandsReady_44 rfl rfl ?_
    replace hf := bd_i hf
    obtain ⟨x7, q8, hf⟩ := hf
    refine J_callV (ci := 8) (as := [.int (hI h p1 2), .int p2]) (rest := [.int l3]) (sy := [.int x7, .int l3]) Z.1 dX10_operandsReady_45 cw_X10_144 (pX10_readyAt_ok G (dk - 1) (by omega) q8) rfl rfl t0 (zG Z) rfl (by simp [cat_i, cat_l, cat_d, cat_rf]) (zF Z (by omega)) (zO Z (by omega) (by decide)) (zM _) Z.2.1 Z.2.1 rfl rfl ?_
    refine J_callS (as := [.int l3, .int x7]) (rest := []) (sy := [.int (pJ9_max_7cf53 l3 x7)]) Z.1 dX10_operandsReady_48 cw_X10_77 (pJ9_max_7cf53_ok G (dk - 1) (by omega) g h l3 x7) (zG Z) rfl (by decide) (zF Z (by omega)) (zO Z (by omega) (by decide)) (zM _) Z.2.1 Z.2.1 rfl rfl ?_
    refine J_ti (fun x9 ex9 => ?_)
    replace hf := lt_i hf x9 ex9
    refine J_istore_n Z.1 (lv2 := [(3, .int x9), (0, va_rf (some this)), (1, va_rf (some p1)), (2, .int p2)]) dX10_operandsReady_51 rfl (zL Z (by decide)) rfl ?_
    refine J_lv [1, 2, 3, 0] rfl ?_
    exact pX10_operandsReady_b52_ok Z hK hE t0  _ hf
def pX10_operandsReady (E : EC) (g : MT) (h : CT) (this : Nat) (p1 : Nat) (p2 : Int32) : Option Int32 := tg g this 9 (tg g p1 2 (lt (hR h p1 0) fun r2 => (nn r2 fun a2 => (tg E.2.2 a2 60 (bd (pX5_does E g h a2 1) fun x4 => (if x4 = 0 then pX10_operandsReady_b27 E g h this p1 p2  0 else bd (pX10_readyAt g h this (hI h p1 1) p2) fun x7 => (lt (pJ9_max_7cf53 0 x7) fun x9 => (pX10_operandsReady_b27 E g h this p1 p2  x9))))))))
set_option maxRecDepth 10000 in
set_option maxHeartbeats 4000000 in
theorem pX10_operandsReady_ok (G : Gx) (dk : Nat) (hK : 2 ≤ dk) {g : MT} {E : EC} (hE : G.2.2.2 = E) {h : CT} {this : Nat} {p1 : Nat} {p2 : Int32} {r0 : Int32} (hf : pX10_operandsReady E g h this p1 p2 = some r0) : Ctr G dk yX10_operandsReady cX10_operandsReady 4 (some .int) [va_rf (some this), va_rf (some p1), .int p2] g h (some (.int r0)) g h := by
  refine Ctr.ofZ (lv := [(0, va_rf (some this)), (1, va_rf (some p1)), (2, .int p2)]) (by decide +kernel) (by simp [cat_i, cat_l, cat_d, cat_rf]) rfl fun X Z => ?_
  unfold pX10_operandsReady at hf
  replace hf := tg_i hf
  obtain ⟨t0, hf⟩ := hf
  refine J_iconst Z.1 (v := 0) (by decide) dX10_operandsReady_0 ?_
  refine J_istore_n Z.1 (lv2 := [(3, .int 0), (0, va_rf (some this)), (1, va_rf (some p1)), (2, .int p2)]) dX10_operandsReady_1 rfl (zL Z (by decide)) rfl ?_
  refine J_aload_n Z.1 2 dX10_operandsReady_2 rfl rfl ?_
  replace hf := tg_i hf
  obtain ⟨t1, hf⟩ := hf
  refine J_get (v := va_rf (hR h p1 0)) Z.1 dX10_operandsReady_3 fl_X10_86 t1 rfl ?_
  refine J_tr (fun r2 er2 => ?_)
  replace hf := lt_i hf r2 er2
  refine J_iconst Z.1 (v := 1) (by decide) dX10_operandsReady_6 ?_
  replace hf := nn_i hf
  obtain ⟨a2, rfl, hf⟩ := hf
  replace hf := tg_i hf
  obtain ⟨t3, hf⟩ := hf
  rw [← zE Z hE] at t3
  replace hf := bd_i hf
  obtain ⟨x4, q5, hf⟩ := hf
  refine J_callK (as := [.int 1]) (rest := []) (sy := [.int x4]) Z.1 dX10_operandsReady_7 cw_X10_101 (pX5_does_ok G (dk - 1) (by omega) hE q5) (kO Z.1 t3) (zG Z) rfl (by decide) (zF Z (by omega)) (zO Z (by omega) (by decide)) (zM _) Z.2.1 Z.2.1 rfl rfl ?_
  refine J_if_eq Z.1 27 dX10_operandsReady_10 (by decide) (fun c6 => ?_) (fun c6 => ?_)
  · rw [if_pos c6] at hf
    refine J_lv [1, 2, 3, 0] rfl ?_
    exact pX10_operandsReady_b27_ok Z hK hE t0  _ hf
  · rw [if_neg c6] at hf
    refine J_iload_n Z.1 0 dX10_operandsReady_13 rfl rfl ?_
    refine J_aload_n Z.1 1 dX10_operandsReady_14 rfl rfl ?_
    refine J_aload_n Z.1 2 dX10_operandsReady_15 rfl rfl ?_
    refine J_get (v := .int (hI h p1 1)) Z.1 dX10_operandsReady_16 fl_X10_118 t1 rfl ?_
    refine J_iload_n Z.1 3 dX10_operandsReady_19 rfl rfl ?_
    replace hf := bd_i hf
    obtain ⟨x7, q8, hf⟩ := hf
    refine J_callV (ci := 8) (as := [.int (hI h p1 1), .int p2]) (rest := [.int 0]) (sy := [.int x7, .int 0]) Z.1 dX10_operandsReady_20 cw_X10_144 (pX10_readyAt_ok G (dk - 1) (by omega) q8) rfl rfl t0 (zG Z) rfl (by simp [cat_i, cat_l, cat_d, cat_rf]) (zF Z (by omega)) (zO Z (by omega) (by decide)) (zM _) Z.2.1 Z.2.1 rfl rfl ?_
    refine J_callS (as := [.int 0, .int x7]) (rest := []) (sy := [.int (pJ9_max_7cf53 0 x7)]) Z.1 dX10_operandsReady_23 cw_X10_77 (pJ9_max_7cf53_ok G (dk - 1) (by omega) g h 0 x7) (zG Z) rfl (by decide) (zF Z (by omega)) (zO Z (by omega) (by decide)) (zM _) Z.2.1 Z.2.1 rfl rfl ?_
    refine J_ti (fun x9 ex9 => ?_)
    replace hf := lt_i hf x9 ex9
    refine J_istore_n Z.1 (lv2 := [(3, .int x9), (0, va_rf (some this)), (1, va_rf (some p1)), (2, .int p2)]) dX10_operandsReady_26 rfl (zL Z (by decide)) rfl ?_
    refine J_lv [1, 2, 3, 0] rfl ?_
    exact pX10_operandsReady_b27_ok Z hK hE t0  _ hf
theorem dX10_readOperands_0 : decode cX10_readOperands 0 = .ok (.aload_n 1, 1) := by decide +kernel
theorem dX10_readOperands_1 : decode cX10_readOperands 1 = .ok (.getfield 86, 3) := by decide +kernel
theorem dX10_readOperands_4 : decode cX10_readOperands 4 = .ok (.iconst 1, 1) := by decide +kernel
theorem dX10_readOperands_5 : decode cX10_readOperands 5 = .ok (.invokevirtual 101, 3) := by decide +kernel
theorem dX10_readOperands_8 : decode cX10_readOperands 8 = .ok (.ifCond .eq 16, 3) := by decide +kernel
theorem dX10_readOperands_11 : decode cX10_readOperands 11 = .ok (.aload_n 0, 1) := by decide +kernel
theorem dX10_readOperands_12 : decode cX10_readOperands 12 = .ok (.aload_n 1, 1) := by decide +kernel
theorem dX10_readOperands_13 : decode cX10_readOperands 13 = .ok (.getfield 118, 3) := by decide +kernel
theorem dX10_readOperands_16 : decode cX10_readOperands 16 = .ok (.iload_n 2, 1) := by decide +kernel
theorem dX10_readOperands_17 : decode cX10_readOperands 17 = .ok (.aload_n 0, 1) := by decide +kernel
theorem dX10_readOperands_18 : decode cX10_readOperands 18 = .ok (.getfield 58, 3) := by decide +kernel
theorem dX10_readOperands_21 : decode cX10_readOperands 21 = .ok (.invokevirtual 153, 3) := by decide +kernel
theorem dX10_readOperands_24 : decode cX10_readOperands 24 = .ok (.aload_n 1, 1) := by decide +kernel
theorem dX10_readOperands_25 : decode cX10_readOperands 25 = .ok (.getfield 86, 3) := by decide +kernel
theorem dX10_readOperands_28 : decode cX10_readOperands 28 = .ok (.iconst 4, 1) := by decide +kernel
theorem dX10_readOperands_29 : decode cX10_readOperands 29 = .ok (.invokevirtual 101, 3) := by decide +kernel
theorem dX10_readOperands_32 : decode cX10_readOperands 32 = .ok (.ifCond .eq 16, 3) := by decide +kernel
theorem dX10_readOperands_35 : decode cX10_readOperands 35 = .ok (.aload_n 0, 1) := by decide +kernel
theorem dX10_readOperands_36 : decode cX10_readOperands 36 = .ok (.aload_n 1, 1) := by decide +kernel
theorem dX10_readOperands_37 : decode cX10_readOperands 37 = .ok (.getfield 147, 3) := by decide +kernel
theorem dX10_readOperands_40 : decode cX10_readOperands 40 = .ok (.iload_n 2, 1) := by decide +kernel
theorem dX10_readOperands_41 : decode cX10_readOperands 41 = .ok (.aload_n 0, 1) := by decide +kernel
theorem dX10_readOperands_42 : decode cX10_readOperands 42 = .ok (.getfield 58, 3) := by decide +kernel
theorem dX10_readOperands_45 : decode cX10_readOperands 45 = .ok (.invokevirtual 153, 3) := by decide +kernel
theorem dX10_readOperands_48 : decode cX10_readOperands 48 = .ok (.aload_n 1, 1) := by decide +kernel
theorem dX10_readOperands_49 : decode cX10_readOperands 49 = .ok (.getfield 86, 3) := by decide +kernel
theorem dX10_readOperands_52 : decode cX10_readOperands 52 = .ok (.bipush 8, 2) := by decide +kernel
theorem dX10_readOperands_54 : decode cX10_readOperands 54 = .ok (.invokevirtual 101, 3) := by decide +kernel
theorem dX10_readOperands_57 : decode cX10_readOperands 57 = .ok (.ifCond .eq 16, 3) := by decide +kernel
theorem dX10_readOperands_60 : decode cX10_readOperands 60 = .ok (.aload_n 0, 1) := by decide +kernel
theorem dX10_readOperands_61 : decode cX10_readOperands 61 = .ok (.aload_n 1, 1) := by decide +kernel
theorem dX10_readOperands_62 : decode cX10_readOperands 62 = .ok (.getfield 150, 3) := by decide +kernel
theorem dX10_readOperands_65 : decode cX10_readOperands 65 = .ok (.iload_n 2, 1) := by decide +kernel
theorem dX10_readOperands_66 : decode cX10_readOperands 66 = .ok (.aload_n 0, 1) := by decide +kernel
theorem dX10_readOperands_67 : decode cX10_readOperands 67 = .ok (.getfield 58, 3) := by decide +kernel
theorem dX10_readOperands_70 : decode cX10_readOperands 70 = .ok (.invokevirtual 153, 3) := by decide +kernel
theorem dX10_readOperands_73 : decode cX10_readOperands 73 = .ok (.return_, 1) := by decide +kernel
def pX10_readOperands_b48 (E : EC) (g : MT) (this : Nat) (p1 : Nat) (p2 : Int32) (h : CT) : Option CT := tg g p1 2 (lt (hR h p1 0) fun r2 => (nn r2 fun a2 => (tg E.2.2 a2 60 (bd (pX5_does E g h a2 8) fun x4 => (if x4 = 0 then some h else bd (pX10_readNow g h this (hI h p1 3) p2 (hI h this 10)) fun h7 => (some h7))))))
set_option maxRecDepth 10000 in
set_option maxHeartbeats 4000000 in
theorem pX10_readOperands_b48_ok {X : Cx} {G : Gx} {dk : Nat} {g : MT} {h0 : CT} {this : Nat} {p1 : Nat} {p2 : Int32} (Z : Zx X G cX10_readOperands RX10 3 dk none none g h0) (hK : 2 ≤ dk) {E : EC} (hE : G.2.2.2 = E) (t0 : gT g this = 9) (h : CT) (hf : pX10_readOperands_b48 E g this p1 p2 h = some h0) : J X g h 48 [(0, va_rf (some this)), (1, va_rf (some p1)), (2, .int p2)] [] := by
  unfold pX10_readOperands_b48 at hf
  refine J_aload_n Z.1 1 dX10_readOperands_48 rfl rfl ?_
  replace hf := tg_i hf
  obtain ⟨t1, hf⟩ := hf
  refine J_get (v := va_rf (hR h p1 0)) Z.1 dX10_readOperands_49 fl_X10_86 t1 rfl ?_
  refine J_tr (fun r2 er2 => ?_)
  replace hf := lt_i hf r2 er2
  refine J_bipush Z.1 (v := 8) (by decide) dX10_readOperands_52 ?_
  replace hf := nn_i hf
  obtain ⟨a2, rfl, hf⟩ := hf
  replace hf := tg_i hf
  obtain ⟨t3, hf⟩ := hf
  rw [← zE Z hE] at t3
  replace hf := bd_i hf
  obtain ⟨x4, q5, hf⟩ := hf
  refine J_callK (as := [.int 8]) (rest := []) (sy := [.int x4]) Z.1 dX10_readOperands_54 cw_X10_101 (pX5_does_ok G (dk - 1) (by omega) hE q5) (kO Z.1 t3) (zG Z) rfl (by decide) (zF Z (by omega)) (zO Z (by omega) (by decide)) (zM _) Z.2.1 Z.2.1 rfl rfl ?_
  refine J_if_eq Z.1 73 dX10_readOperands_57 (by decide) (fun c6 => ?_) (fun c6 => ?_)
  · rw [if_pos c6] at hf
    cases hf
    exact J_vret Z.1 Z.2.2.2.2.2 dX10_readOperands_73
  · rw [if_neg c6] at hf
    refine J_aload_n Z.1 0 dX10_readOperands_60 rfl rfl ?_
    refine J_aload_n Z.1 1 dX10_readOperands_61 rfl rfl ?_
    refine J_get (v := .int (hI h p1 3)) Z.1 dX10_readOperands_62 fl_X10_150 t1 rfl ?_
    refine J_iload_n Z.1 2 dX10_readOperands_65 rfl rfl ?_
    refine J_aload_n Z.1 0 dX10_readOperands_66 rfl rfl ?_
    refine J_get (v := .int (hI h this 10)) Z.1 dX10_readOperands_67 fl_X10_58 t0 rfl ?_
    replace hf := bd_i hf
    obtain ⟨h7, q8, hf⟩ := hf
    refine J_callV (ci := 8) (as := [.int (hI h p1 3), .int p2, .int (hI h this 10)]) (rest := []) (sy := []) Z.1 dX10_readOperands_70 cw_X10_153 (pX10_readNow_ok G (dk - 1) (by omega) q8) rfl rfl t0 (zG Z) rfl (by decide) (zF Z (by omega)) (zO Z (by omega) (by decide)) (zM _) Z.2.1 Z.2.1 rfl rfl ?_
    cases hf
    exact J_vret Z.1 Z.2.2.2.2.2 dX10_readOperands_73
def pX10_readOperands_b24 (E : EC) (g : MT) (this : Nat) (p1 : Nat) (p2 : Int32) (h : CT) : Option CT := tg g p1 2 (lt (hR h p1 0) fun r2 => (nn r2 fun a2 => (tg E.2.2 a2 60 (bd (pX5_does E g h a2 4) fun x4 => (if x4 = 0 then pX10_readOperands_b48 E g this p1 p2  h else bd (pX10_readNow g h this (hI h p1 2) p2 (hI h this 10)) fun h7 => (pX10_readOperands_b48 E g this p1 p2  h7))))))
set_option maxRecDepth 10000 in
set_option maxHeartbeats 4000000 in
theorem pX10_readOperands_b24_ok {X : Cx} {G : Gx} {dk : Nat} {g : MT} {h0 : CT} {this : Nat} {p1 : Nat} {p2 : Int32} (Z : Zx X G cX10_readOperands RX10 3 dk none none g h0) (hK : 2 ≤ dk) {E : EC} (hE : G.2.2.2 = E) (t0 : gT g this = 9) (h : CT) (hf : pX10_readOperands_b24 E g this p1 p2 h = some h0) : J X g h 24 [(0, va_rf (some this)), (1, va_rf (some p1)), (2, .int p2)] [] := by
  unfold pX10_readOperands_b24 at hf
  refine J_aload_n Z.1 1 dX10_readOperands_24 rfl rfl ?_
  replace hf := tg_i hf
  obtain ⟨t1, hf⟩ := hf
  refine J_get (v := va_rf (hR h p1 0)) Z.1 dX10_readOperands_25 fl_X10_86 t1 rfl ?_
  refine J_tr (fun r2 er2 => ?_)
  replace hf := lt_i hf r2 er2
  refine J_iconst Z.1 (v := 4) (by decide) dX10_readOperands_28 ?_
  replace hf := nn_i hf
  obtain ⟨a2, rfl, hf⟩ := hf
  replace hf := tg_i hf
  obtain ⟨t3, hf⟩ := hf
  rw [← zE Z hE] at t3
  replace hf := bd_i hf
  obtain ⟨x4, q5, hf⟩ := hf
  refine J_callK (as := [.int 4]) (rest := []) (sy := [.int x4]) Z.1 dX10_readOperands_29 cw_X10_101 (pX5_does_ok G (dk - 1) (by omega) hE q5) (kO Z.1 t3) (zG Z) rfl (by decide) (zF Z (by omega)) (zO Z (by omega) (by decide)) (zM _) Z.2.1 Z.2.1 rfl rfl ?_
  refine J_if_eq Z.1 48 dX10_readOperands_32 (by decide) (fun c6 => ?_) (fun c6 => ?_)
  · rw [if_pos c6] at hf
    exact pX10_readOperands_b48_ok Z hK hE t0  _ hf
  · rw [if_neg c6] at hf
    refine J_aload_n Z.1 0 dX10_readOperands_35 rfl rfl ?_
    refine J_aload_n Z.1 1 dX10_readOperands_36 rfl rfl ?_
    refine J_get (v := .int (hI h p1 2)) Z.1 dX10_readOperands_37 fl_X10_147 t1 rfl ?_
    refine J_iload_n Z.1 2 dX10_readOperands_40 rfl rfl ?_
    refine J_aload_n Z.1 0 dX10_readOperands_41 rfl rfl ?_
    refine J_get (v := .int (hI h this 10)) Z.1 dX10_readOperands_42 fl_X10_58 t0 rfl ?_
    replace hf := bd_i hf
    obtain ⟨h7, q8, hf⟩ := hf
    refine J_callV (ci := 8) (as := [.int (hI h p1 2), .int p2, .int (hI h this 10)]) (rest := []) (sy := []) Z.1 dX10_readOperands_45 cw_X10_153 (pX10_readNow_ok G (dk - 1) (by omega) q8) rfl rfl t0 (zG Z) rfl (by decide) (zF Z (by omega)) (zO Z (by omega) (by decide)) (zM _) Z.2.1 Z.2.1 rfl rfl ?_
    exact pX10_readOperands_b48_ok Z hK hE t0  _ hf
def pX10_readOperands (E : EC) (g : MT) (h : CT) (this : Nat) (p1 : Nat) (p2 : Int32) : Option CT := tg g this 9 (tg g p1 2 (lt (hR h p1 0) fun r2 => (nn r2 fun a2 => (tg E.2.2 a2 60 (bd (pX5_does E g h a2 1) fun x4 => (if x4 = 0 then pX10_readOperands_b24 E g this p1 p2  h else bd (pX10_readNow g h this (hI h p1 1) p2 (hI h this 10)) fun h7 => (pX10_readOperands_b24 E g this p1 p2  h7)))))))
set_option maxRecDepth 10000 in
set_option maxHeartbeats 4000000 in
theorem pX10_readOperands_ok (G : Gx) (dk : Nat) (hK : 2 ≤ dk) {g : MT} {E : EC} (hE : G.2.2.2 = E) {h h0 : CT} {this : Nat} {p1 : Nat} {p2 : Int32} (hf : pX10_readOperands E g h this p1 p2 = some h0) : Ctr G dk yX10_readOperands cX10_readOperands 3 none [va_rf (some this), va_rf (some p1), .int p2] g h none g h0 := by
  refine Ctr.ofZ (lv := [(0, va_rf (some this)), (1, va_rf (some p1)), (2, .int p2)]) (by decide +kernel) (by simp [cat_i, cat_l, cat_d, cat_rf]) rfl fun X Z => ?_
  unfold pX10_readOperands at hf
  replace hf := tg_i hf
  obtain ⟨t0, hf⟩ := hf
  refine J_aload_n Z.1 1 dX10_readOperands_0 rfl rfl ?_
  replace hf := tg_i hf
  obtain ⟨t1, hf⟩ := hf
  refine J_get (v := va_rf (hR h p1 0)) Z.1 dX10_readOperands_1 fl_X10_86 t1 rfl ?_
  refine J_tr (fun r2 er2 => ?_)
  replace hf := lt_i hf r2 er2
  refine J_iconst Z.1 (v := 1) (by decide) dX10_readOperands_4 ?_
  replace hf := nn_i hf
  obtain ⟨a2, rfl, hf⟩ := hf
  replace hf := tg_i hf
  obtain ⟨t3, hf⟩ := hf
  rw [← zE Z hE] at t3
  replace hf := bd_i hf
  obtain ⟨x4, q5, hf⟩ := hf
  refine J_callK (as := [.int 1]) (rest := []) (sy := [.int x4]) Z.1 dX10_readOperands_5 cw_X10_101 (pX5_does_ok G (dk - 1) (by omega) hE q5) (kO Z.1 t3) (zG Z) rfl (by decide) (zF Z (by omega)) (zO Z (by omega) (by decide)) (zM _) Z.2.1 Z.2.1 rfl rfl ?_
  refine J_if_eq Z.1 24 dX10_readOperands_8 (by decide) (fun c6 => ?_) (fun c6 => ?_)
  · rw [if_pos c6] at hf
    exact pX10_readOperands_b24_ok Z hK hE t0  _ hf
  · rw [if_neg c6] at hf
    refine J_aload_n Z.1 0 dX10_readOperands_11 rfl rfl ?_
    refine J_aload_n Z.1 1 dX10_readOperands_12 rfl rfl ?_
    refine J_get (v := .int (hI h p1 1)) Z.1 dX10_readOperands_13 fl_X10_118 t1 rfl ?_
    refine J_iload_n Z.1 2 dX10_readOperands_16 rfl rfl ?_
    refine J_aload_n Z.1 0 dX10_readOperands_17 rfl rfl ?_
    refine J_get (v := .int (hI h this 10)) Z.1 dX10_readOperands_18 fl_X10_58 t0 rfl ?_
    replace hf := bd_i hf
    obtain ⟨h7, q8, hf⟩ := hf
    refine J_callV (ci := 8) (as := [.int (hI h p1 1), .int p2, .int (hI h this 10)]) (rest := []) (sy := []) Z.1 dX10_readOperands_21 cw_X10_153 (pX10_readNow_ok G (dk - 1) (by omega) q8) rfl rfl t0 (zG Z) rfl (by decide) (zF Z (by omega)) (zO Z (by omega) (by decide)) (zM _) Z.2.1 Z.2.1 rfl rfl ?_
    exact pX10_readOperands_b24_ok Z hK hE t0  _ hf
theorem dX10_throughBank_0 : decode cX10_throughBank 0 = .ok (.iload_n 2, 1) := by decide +kernel
theorem dX10_throughBank_1 : decode cX10_throughBank 1 = .ok (.ifCond .lt 12, 3) := by decide +kernel
theorem dX10_throughBank_4 : decode cX10_throughBank 4 = .ok (.iload_n 2, 1) := by decide +kernel
theorem dX10_throughBank_5 : decode cX10_throughBank 5 = .ok (.aload_n 0, 1) := by decide +kernel
theorem dX10_throughBank_6 : decode cX10_throughBank 6 = .ok (.getfield 30, 3) := by decide +kernel
theorem dX10_throughBank_9 : decode cX10_throughBank 9 = .ok (.arraylength, 1) := by decide +kernel
theorem dX10_throughBank_10 : decode cX10_throughBank 10 = .ok (.if_icmp .lt 5, 3) := by decide +kernel
theorem dX10_throughBank_13 : decode cX10_throughBank 13 = .ok (.iload_n 1, 1) := by decide +kernel
theorem dX10_throughBank_14 : decode cX10_throughBank 14 = .ok (.ireturn, 1) := by decide +kernel
theorem dX10_throughBank_15 : decode cX10_throughBank 15 = .ok (.iload_n 1, 1) := by decide +kernel
theorem dX10_throughBank_16 : decode cX10_throughBank 16 = .ok (.aload_n 0, 1) := by decide +kernel
theorem dX10_throughBank_17 : decode cX10_throughBank 17 = .ok (.getfield 30, 3) := by decide +kernel
theorem dX10_throughBank_20 : decode cX10_throughBank 20 = .ok (.iload_n 2, 1) := by decide +kernel
theorem dX10_throughBank_21 : decode cX10_throughBank 21 = .ok (.iaload, 1) := by decide +kernel
theorem dX10_throughBank_22 : decode cX10_throughBank 22 = .ok (.invokestatic 77, 3) := by decide +kernel
theorem dX10_throughBank_25 : decode cX10_throughBank 25 = .ok (.istore 4, 2) := by decide +kernel
theorem dX10_throughBank_27 : decode cX10_throughBank 27 = .ok (.aload_n 0, 1) := by decide +kernel
theorem dX10_throughBank_28 : decode cX10_throughBank 28 = .ok (.dup, 1) := by decide +kernel
theorem dX10_throughBank_29 : decode cX10_throughBank 29 = .ok (.getfield 37, 3) := by decide +kernel
theorem dX10_throughBank_32 : decode cX10_throughBank 32 = .ok (.iload 4, 2) := by decide +kernel
theorem dX10_throughBank_34 : decode cX10_throughBank 34 = .ok (.iload_n 1, 1) := by decide +kernel
theorem dX10_throughBank_35 : decode cX10_throughBank 35 = .ok (.isub, 1) := by decide +kernel
theorem dX10_throughBank_36 : decode cX10_throughBank 36 = .ok (.iadd, 1) := by decide +kernel
theorem dX10_throughBank_37 : decode cX10_throughBank 37 = .ok (.putfield 37, 3) := by decide +kernel
theorem dX10_throughBank_40 : decode cX10_throughBank 40 = .ok (.aload_n 0, 1) := by decide +kernel
theorem dX10_throughBank_41 : decode cX10_throughBank 41 = .ok (.getfield 30, 3) := by decide +kernel
theorem dX10_throughBank_44 : decode cX10_throughBank 44 = .ok (.iload_n 2, 1) := by decide +kernel
theorem dX10_throughBank_45 : decode cX10_throughBank 45 = .ok (.iload 4, 2) := by decide +kernel
theorem dX10_throughBank_47 : decode cX10_throughBank 47 = .ok (.iload_n 3, 1) := by decide +kernel
theorem dX10_throughBank_48 : decode cX10_throughBank 48 = .ok (.iadd, 1) := by decide +kernel
theorem dX10_throughBank_49 : decode cX10_throughBank 49 = .ok (.iastore, 1) := by decide +kernel
theorem dX10_throughBank_50 : decode cX10_throughBank 50 = .ok (.iload 4, 2) := by decide +kernel
theorem dX10_throughBank_52 : decode cX10_throughBank 52 = .ok (.ireturn, 1) := by decide +kernel
def pX10_throughBank (g : MT) (h : CT) (this : Nat) (p1 : Int32) (p2 : Int32) (p3 : Int32) : Option ((Int32) × CT) := tg g this 9 (if p2 < 0 then some (p1, h) else lt (hR h this 16) fun r2 => (nn r2 fun a2 => (tg g a2 20 (if p2 < (Int32.ofNat (gL g a2)) then lt (hR h this 16) fun r5 => (nn r5 fun a5 => (tg g a5 20 (ix (gL g a5) p2 (lt (pJ9_max_7cf53 p1 (hI h a5 (Int32.toNatClampNeg p2))) fun x8 => (lt (sI h this 1 ((hI h this 1) + (x8 - p1))) fun h9 => (lt (hR h9 this 16) fun r10 => (nn r10 fun a10 => (tg g a10 20 (ix (gL g a10) p2 (lt (sI h9 a10 (Int32.toNatClampNeg p2) (x8 + p3)) fun h13 => (some (x8, h13)))))))))))) else some (p1, h)))))
set_option maxRecDepth 10000 in
set_option maxHeartbeats 4000000 in
theorem pX10_throughBank_ok (G : Gx) (dk : Nat) (hK : 1 ≤ dk) {g : MT} {h h0 : CT} {this : Nat} {p1 : Int32} {p2 : Int32} {p3 : Int32} {r0 : Int32} (hf : pX10_throughBank g h this p1 p2 p3 = some (r0, h0)) : Ctr G dk yX10_throughBank cX10_throughBank 5 (some .int) [va_rf (some this), .int p1, .int p2, .int p3] g h (some (.int r0)) g h0 := by
  refine Ctr.ofZ (lv := [(0, va_rf (some this)), (1, .int p1), (2, .int p2), (3, .int p3)]) (by decide +kernel) (by simp [cat_i, cat_l, cat_d, cat_rf]) rfl fun X Z => ?_
  unfold pX10_throughBank at hf
  replace hf := tg_i hf
  obtain ⟨t0, hf⟩ := hf
  refine J_iload_n Z.1 2 dX10_throughBank_0 rfl rfl ?_
  refine J_if_lt Z.1 13 dX10_throughBank_1 (by decide) (fun c1 => ?_) (fun c1 => ?_)
  · rw [if_pos c1] at hf
    refine J_iload_n Z.1 1 dX10_throughBank_13 rfl rfl ?_
    cases hf
    exact J_iret Z.1 Z.2.2.2.2.2 dX10_throughBank_14
  · rw [if_neg c1] at hf
    refine J_iload_n Z.1 2 dX10_throughBank_4 rfl rfl ?_
    refine J_aload_n Z.1 0 dX10_throughBank_5 rfl rfl ?_
    refine J_get (v := va_rf (hR h this 16)) Z.1 dX10_throughBank_6 fl_X10_30 t0 rfl ?_
    refine J_tr (fun r2 er2 => ?_)
    replace hf := lt_i hf r2 er2
    replace hf := nn_i hf
    obtain ⟨a2, rfl, hf⟩ := hf
    replace hf := tg_i hf
    obtain ⟨t3, hf⟩ := hf
    refine J_alen (t := 0) Z.1 dX10_throughBank_9 t3 rfl ?_
    refine J_icmp_lt Z.1 15 dX10_throughBank_10 (by decide) (fun c4 => ?_) (fun c4 => ?_)
    · rw [if_pos c4] at hf
      refine J_iload_n Z.1 1 dX10_throughBank_15 rfl rfl ?_
      refine J_aload_n Z.1 0 dX10_throughBank_16 rfl rfl ?_
      refine J_get (v := va_rf (hR h this 16)) Z.1 dX10_throughBank_17 fl_X10_30 t0 rfl ?_
      refine J_tr (fun r5 er5 => ?_)
      replace hf := lt_i hf r5 er5
      refine J_iload_n Z.1 2 dX10_throughBank_20 rfl rfl ?_
      replace hf := nn_i hf
      obtain ⟨a5, rfl, hf⟩ := hf
      replace hf := tg_i hf
      obtain ⟨t6, hf⟩ := hf
      replace hf := ix_i hf
      obtain ⟨i7, hf⟩ := hf
      refine J_iaload Z.1 dX10_throughBank_21 t6 i7 ?_
      refine J_callS (as := [.int p1, .int (hI h a5 (Int32.toNatClampNeg p2))]) (rest := []) (sy := [.int (pJ9_max_7cf53 p1 (hI h a5 (Int32.toNatClampNeg p2)))]) Z.1 dX10_throughBank_22 cw_X10_77 (pJ9_max_7cf53_ok G (dk - 1) (by omega) g h p1 (hI h a5 (Int32.toNatClampNeg p2))) (zG Z) rfl (by decide) (zF Z (by omega)) (zO Z (by omega) (by decide)) (zM _) Z.2.1 Z.2.1 rfl rfl ?_
      refine J_ti (fun x8 ex8 => ?_)
      replace hf := lt_i hf x8 ex8
      refine J_istore Z.1 (lv2 := [(4, .int x8), (0, va_rf (some this)), (1, .int p1), (2, .int p2), (3, .int p3)]) dX10_throughBank_25 (zL Z (by decide)) rfl ?_
      refine J_aload_n Z.1 1 dX10_throughBank_27 rfl rfl ?_
      refine J_dup Z.1 dX10_throughBank_28 rfl ?_
      refine J_get (v := .int (hI h this 1)) Z.1 dX10_throughBank_29 fl_X10_37 t0 rfl ?_
      refine J_iload Z.1 0 dX10_throughBank_32 rfl ?_
      refine J_iload_n Z.1 2 dX10_throughBank_34 rfl rfl ?_
      refine J_isub Z.1 dX10_throughBank_35 ?_
      refine J_iadd Z.1 dX10_throughBank_36 ?_
      refine J_putI Z.1 dX10_throughBank_37 fl_X10_37 (fun q => by cases q) t0 rfl rfl (congrArg Value.int (hI_s _ _ _ _)) ?_
      refine J_th (fun h9 eh9 => ?_)
      replace hf := lt_i hf h9 eh9
      refine J_aload_n Z.1 1 dX10_throughBank_40 rfl rfl ?_
      refine J_get (v := va_rf (hR h9 this 16)) Z.1 dX10_throughBank_41 fl_X10_30 t0 rfl ?_
      refine J_tr (fun r10 er10 => ?_)
      replace hf := lt_i hf r10 er10
      refine J_iload_n Z.1 3 dX10_throughBank_44 rfl rfl ?_
      refine J_iload Z.1 0 dX10_throughBank_45 rfl ?_
      refine J_iload_n Z.1 4 dX10_throughBank_47 rfl rfl ?_
      refine J_iadd Z.1 dX10_throughBank_48 ?_
      replace hf := nn_i hf
      obtain ⟨a10, rfl, hf⟩ := hf
      replace hf := tg_i hf
      obtain ⟨t11, hf⟩ := hf
      replace hf := ix_i hf
      obtain ⟨i12, hf⟩ := hf
      refine J_iastore Z.1 dX10_throughBank_49 t11 i12 ?_
      refine J_th (fun h13 eh13 => ?_)
      replace hf := lt_i hf h13 eh13
      refine J_iload Z.1 0 dX10_throughBank_50 rfl ?_
      cases hf
      exact J_iret Z.1 Z.2.2.2.2.2 dX10_throughBank_52
    · rw [if_neg c4] at hf
      refine J_iload_n Z.1 1 dX10_throughBank_13 rfl rfl ?_
      cases hf
      exact J_iret Z.1 Z.2.2.2.2.2 dX10_throughBank_14
theorem dX10_finish_0 : decode cX10_finish 0 = .ok (.aload_n 1, 1) := by decide +kernel
theorem dX10_finish_1 : decode cX10_finish 1 = .ok (.getfield 86, 3) := by decide +kernel
theorem dX10_finish_4 : decode cX10_finish 4 = .ok (.getfield 92, 3) := by decide +kernel
theorem dX10_finish_7 : decode cX10_finish 7 = .ok (.istore_n 3, 1) := by decide +kernel
theorem dX10_finish_8 : decode cX10_finish 8 = .ok (.aload_n 0, 1) := by decide +kernel
theorem dX10_finish_9 : decode cX10_finish 9 = .ok (.getfield 58, 3) := by decide +kernel
theorem dX10_finish_12 : decode cX10_finish 12 = .ok (.aload_n 1, 1) := by decide +kernel
theorem dX10_finish_13 : decode cX10_finish 13 = .ok (.getfield 86, 3) := by decide +kernel
theorem dX10_finish_16 : decode cX10_finish 16 = .ok (.invokevirtual 121, 3) := by decide +kernel
theorem dX10_finish_19 : decode cX10_finish 19 = .ok (.iadd, 1) := by decide +kernel
theorem dX10_finish_20 : decode cX10_finish 20 = .ok (.istore 4, 2) := by decide +kernel
theorem dX10_finish_22 : decode cX10_finish 22 = .ok (.iload_n 3, 1) := by decide +kernel
theorem dX10_finish_23 : decode cX10_finish 23 = .ok (.ifCond .lt 24, 3) := by decide +kernel
theorem dX10_finish_26 : decode cX10_finish 26 = .ok (.iload_n 3, 1) := by decide +kernel
theorem dX10_finish_27 : decode cX10_finish 27 = .ok (.aload_n 0, 1) := by decide +kernel
theorem dX10_finish_28 : decode cX10_finish 28 = .ok (.getfield 21, 3) := by decide +kernel
theorem dX10_finish_31 : decode cX10_finish 31 = .ok (.arraylength, 1) := by decide +kernel
theorem dX10_finish_32 : decode cX10_finish 32 = .ok (.if_icmp .ge 15, 3) := by decide +kernel
theorem dX10_finish_35 : decode cX10_finish 35 = .ok (.aload_n 0, 1) := by decide +kernel
theorem dX10_finish_36 : decode cX10_finish 36 = .ok (.getfield 21, 3) := by decide +kernel
theorem dX10_finish_39 : decode cX10_finish 39 = .ok (.iload_n 3, 1) := by decide +kernel
theorem dX10_finish_40 : decode cX10_finish 40 = .ok (.aload_n 0, 1) := by decide +kernel
theorem dX10_finish_41 : decode cX10_finish 41 = .ok (.getfield 58, 3) := by decide +kernel
theorem dX10_finish_44 : decode cX10_finish 44 = .ok (.iconst 1, 1) := by decide +kernel
theorem dX10_finish_45 : decode cX10_finish 45 = .ok (.iadd, 1) := by decide +kernel
theorem dX10_finish_46 : decode cX10_finish 46 = .ok (.iastore, 1) := by decide +kernel
theorem dX10_finish_47 : decode cX10_finish 47 = .ok (.aload_n 1, 1) := by decide +kernel
theorem dX10_finish_48 : decode cX10_finish 48 = .ok (.getfield 86, 3) := by decide +kernel
theorem dX10_finish_51 : decode cX10_finish 51 = .ok (.bipush 32, 2) := by decide +kernel
theorem dX10_finish_53 : decode cX10_finish 53 = .ok (.invokevirtual 101, 3) := by decide +kernel
theorem dX10_finish_56 : decode cX10_finish 56 = .ok (.ifCond .eq 15, 3) := by decide +kernel
theorem dX10_finish_59 : decode cX10_finish 59 = .ok (.aload_n 0, 1) := by decide +kernel
theorem dX10_finish_60 : decode cX10_finish 60 = .ok (.iload 4, 2) := by decide +kernel
theorem dX10_finish_62 : decode cX10_finish 62 = .ok (.putfield 61, 3) := by decide +kernel
theorem dX10_finish_65 : decode cX10_finish 65 = .ok (.aload_n 0, 1) := by decide +kernel
theorem dX10_finish_66 : decode cX10_finish 66 = .ok (.iload 4, 2) := by decide +kernel
theorem dX10_finish_68 : decode cX10_finish 68 = .ok (.invokevirtual 82, 3) := by decide +kernel
theorem dX10_finish_71 : decode cX10_finish 71 = .ok (.aload_n 1, 1) := by decide +kernel
theorem dX10_finish_72 : decode cX10_finish 72 = .ok (.getfield 156, 3) := by decide +kernel
theorem dX10_finish_75 : decode cX10_finish 75 = .ok (.ifCond .ne 15, 3) := by decide +kernel
theorem dX10_finish_78 : decode cX10_finish 78 = .ok (.aload_n 1, 1) := by decide +kernel
theorem dX10_finish_79 : decode cX10_finish 79 = .ok (.getfield 86, 3) := by decide +kernel
theorem dX10_finish_82 : decode cX10_finish 82 = .ok (.bipush 16, 2) := by decide +kernel
theorem dX10_finish_84 : decode cX10_finish 84 = .ok (.invokevirtual 101, 3) := by decide +kernel
theorem dX10_finish_87 : decode cX10_finish 87 = .ok (.ifCond .eq 18, 3) := by decide +kernel
theorem dX10_finish_90 : decode cX10_finish 90 = .ok (.aload_n 0, 1) := by decide +kernel
theorem dX10_finish_91 : decode cX10_finish 91 = .ok (.aload_n 0, 1) := by decide +kernel
theorem dX10_finish_92 : decode cX10_finish 92 = .ok (.getfield 64, 3) := by decide +kernel
theorem dX10_finish_95 : decode cX10_finish 95 = .ok (.aload_n 0, 1) := by decide +kernel
theorem dX10_finish_96 : decode cX10_finish 96 = .ok (.getfield 58, 3) := by decide +kernel
theorem dX10_finish_99 : decode cX10_finish 99 = .ok (.invokestatic 77, 3) := by decide +kernel
theorem dX10_finish_102 : decode cX10_finish 102 = .ok (.putfield 64, 3) := by decide +kernel
theorem dX10_finish_105 : decode cX10_finish 105 = .ok (.aload_n 1, 1) := by decide +kernel
theorem dX10_finish_106 : decode cX10_finish 106 = .ok (.getfield 86, 3) := by decide +kernel
theorem dX10_finish_109 : decode cX10_finish 109 = .ok (.getstatic 105, 3) := by decide +kernel
theorem dX10_finish_112 : decode cX10_finish 112 = .ok (.if_acmp .ne 30, 3) := by decide +kernel
theorem dX10_finish_115 : decode cX10_finish 115 = .ok (.iconst 0, 1) := by decide +kernel
theorem dX10_finish_116 : decode cX10_finish 116 = .ok (.istore 5, 2) := by decide +kernel
theorem dX10_finish_118 : decode cX10_finish 118 = .ok (.iload 5, 2) := by decide +kernel
theorem dX10_finish_120 : decode cX10_finish 120 = .ok (.iload_n 2, 1) := by decide +kernel
theorem dX10_finish_121 : decode cX10_finish 121 = .ok (.if_icmp .ge 21, 3) := by decide +kernel
theorem dX10_finish_124 : decode cX10_finish 124 = .ok (.aload_n 0, 1) := by decide +kernel
theorem dX10_finish_125 : decode cX10_finish 125 = .ok (.aload_n 1, 1) := by decide +kernel
theorem dX10_finish_126 : decode cX10_finish 126 = .ok (.getfield 118, 3) := by decide +kernel
theorem dX10_finish_129 : decode cX10_finish 129 = .ok (.iload 5, 2) := by decide +kernel
theorem dX10_finish_131 : decode cX10_finish 131 = .ok (.iload 4, 2) := by decide +kernel
theorem dX10_finish_133 : decode cX10_finish 133 = .ok (.invokevirtual 136, 3) := by decide +kernel
theorem dX10_finish_136 : decode cX10_finish 136 = .ok (.iinc 5 1, 3) := by decide +kernel
theorem dX10_finish_139 : decode cX10_finish 139 = .ok (.goto (-21), 3) := by decide +kernel
theorem dX10_finish_142 : decode cX10_finish 142 = .ok (.return_, 1) := by decide +kernel
def pX10_finish_b118 (E : EC) (g : MT) (this : Nat) (p1 : Nat) (p2 : Int32) (k118 : Int32 → Int32 → CT → Option CT) (l4 : Int32) (l5 : Int32) (h : CT) : Option CT := if p2 ≤ l5 then some h else tg g p1 2 (bd (pX10_readyFrom g h this (hI h p1 1) l5 l4) fun h3 => (lt (l5 + 1) fun x5 => (k118 l4 x5 h3)))
set_option maxRecDepth 10000 in
set_option maxHeartbeats 4000000 in
theorem pX10_finish_b118_ok {X : Cx} {G : Gx} {dk : Nat} {g : MT} {h0 : CT} {this : Nat} {p1 : Nat} {p2 : Int32} {k118 : Int32 → Int32 → CT → Option CT} (Z : Zx X G cX10_finish RX10 6 dk none none g h0) (hK : 2 ≤ dk) {E : EC} (hE : G.2.2.2 = E) (t0 : gT g this = 9) (hk118 : ∀ (l4 : Int32) (l5 : Int32) (h : CT), k118 l4 l5 h = some h0 → J X g h 118 [(0, va_rf (some this)), (1, va_rf (some p1)), (2, .int p2), (4, .int l4), (5, .int l5)] []) (l4 : Int32) (l5 : Int32) (h : CT) (hf : pX10_finish_b118 E g this p1 p2 k118 l4 l5 h = some h0) : J X g h 118 [(0, va_rf (some this)), (1, va_rf (some p1)), (2, .int p2), (4, .int l4), (5, .int l5)] [] := by
  unfold pX10_finish_b118 at hf
  refine J_iload Z.1 4 dX10_finish_118 rfl ?_
  refine J_iload_n Z.1 2 dX10_finish_120 rfl rfl ?_
  refine J_icmp_ge Z.1 142 dX10_finish_121 (by decide) (fun c1 => ?_) (fun c1 => ?_)
  · rw [if_pos c1] at hf
    cases hf
    exact J_vret Z.1 Z.2.2.2.2.2 dX10_finish_142
  · rw [if_neg c1] at hf
    refine J_aload_n Z.1 0 dX10_finish_124 rfl rfl ?_
    refine J_aload_n Z.1 1 dX10_finish_125 rfl rfl ?_
    replace hf := tg_i hf
    obtain ⟨t2, hf⟩ := hf
    refine J_get (v := .int (hI h p1 1)) Z.1 dX10_finish_126 fl_X10_118 t2 rfl ?_
    refine J_iload Z.1 4 dX10_finish_129 rfl ?_
    refine J_iload Z.1 3 dX10_finish_131 rfl ?_
    replace hf := bd_i hf
    obtain ⟨h3, q4, hf⟩ := hf
    refine J_callV (ci := 8) (as := [.int (hI h p1 1), .int l5, .int l4]) (rest := []) (sy := []) Z.1 dX10_finish_133 cw_X10_136 (pX10_readyFrom_ok G (dk - 1) (by omega) q4) rfl rfl t0 (zG Z) rfl (by decide) (zF Z (by omega)) (zO Z (by omega) (by decide)) (zM _) Z.2.1 Z.2.1 rfl rfl ?_
    refine J_iinc Z.1 (v := 1) (lv2 := [(5, .int (l5 + 1)), (0, va_rf (some this)), (1, va_rf (some p1)), (2, .int p2), (4, .int l4)]) 4 dX10_finish_136 rfl (by decide) (zL Z (by decide)) rfl ?_
    obtain ⟨x5, ex5⟩ : ∃ z, z = (l5 + 1) := ⟨_, rfl⟩
    replace hf := lt_i hf x5 ex5
    rw [← ex5]
    refine J_goto Z.1 118 dX10_finish_139 (by decide) ?_
    refine J_lv [1, 2, 3, 4, 0] rfl ?_
    exact hk118 _ _ _ hf
def pX10_finish_l118 (E : EC) (g : MT) (this : Nat) (p1 : Nat) (p2 : Int32) : Nat → Int32 → Int32 → CT → Option CT
  | 0, _, _, _ => none
  | n + 1, l4, l5, h => pX10_finish_b118 E g this p1 p2 (pX10_finish_l118 E g this p1 p2 n) l4 l5 h
theorem pX10_finish_l118_ok {X : Cx} {G : Gx} {dk : Nat} {g : MT} {h0 : CT} {this : Nat} {p1 : Nat} {p2 : Int32} (Z : Zx X G cX10_finish RX10 6 dk none none g h0) (hK : 2 ≤ dk) {E : EC} (hE : G.2.2.2 = E) (t0 : gT g this = 9) : ∀ (n : Nat) (l4 : Int32) (l5 : Int32) (h : CT), pX10_finish_l118 E g this p1 p2 n l4 l5 h = some h0 → J X g h 118 [(0, va_rf (some this)), (1, va_rf (some p1)), (2, .int p2), (4, .int l4), (5, .int l5)] [] := by
  intro n
  induction n with
  | zero => intro l4 l5 h hf; cases hf
  | succ n ih => intro l4 l5 h hf; exact pX10_finish_b118_ok Z hK hE t0 ih l4 l5 h hf
def pX10_finish_b105 (E : EC) (g : MT) (this : Nat) (p1 : Nat) (p2 : Int32) (l4 : Int32) (h : CT) : Option CT := tg g p1 2 (lt (hR h p1 0) fun r2 => (kR (E.1 26) fun a3 => (if r2 = (some a3) then pX10_finish_l118 E g this p1 p2  FUEL l4 0 h else some h)))
set_option maxRecDepth 10000 in
set_option maxHeartbeats 4000000 in
theorem pX10_finish_b105_ok {X : Cx} {G : Gx} {dk : Nat} {g : MT} {h0 : CT} {this : Nat} {p1 : Nat} {p2 : Int32} (Z : Zx X G cX10_finish RX10 6 dk none none g h0) (hK : 2 ≤ dk) {E : EC} (hE : G.2.2.2 = E) (t0 : gT g this = 9) (l4 : Int32) (h : CT) (hf : pX10_finish_b105 E g this p1 p2 l4 h = some h0) : J X g h 105 [(0, va_rf (some this)), (1, va_rf (some p1)), (2, .int p2), (4, .int l4)] [] := by
  unfold pX10_finish_b105 at hf
  refine J_aload_n Z.1 1 dX10_finish_105 rfl rfl ?_
  replace hf := tg_i hf
  obtain ⟨t1, hf⟩ := hf
  refine J_get (v := va_rf (hR h p1 0)) Z.1 dX10_finish_106 fl_X10_86 t1 rfl ?_
  refine J_tr (fun r2 er2 => ?_)
  replace hf := lt_i hf r2 er2
  replace hf := kR_i hf
  obtain ⟨a3, ea3, hf⟩ := hf
  refine J_gets (i := 26) (v := va_rf (some a3)) Z.1 dX10_finish_109 rfl q_1012 (zEv Z hE ea3) rfl ?_
  refine J_acmp_ne Z.1 142 dX10_finish_112 (by decide) (fun c4 => ?_) (fun c4 => ?_)
  · rw [if_neg c4] at hf
    cases hf
    exact J_vret Z.1 Z.2.2.2.2.2 dX10_finish_142
  · rw [if_pos c4] at hf
    refine J_iconst Z.1 (v := 0) (by decide) dX10_finish_115 ?_
    refine J_istore Z.1 (lv2 := [(5, .int 0), (0, va_rf (some this)), (1, va_rf (some p1)), (2, .int p2), (4, .int l4)]) dX10_finish_116 (zL Z (by decide)) rfl ?_
    refine J_lv [1, 2, 3, 4, 0] rfl ?_
    exact pX10_finish_l118_ok Z hK hE t0  FUEL _ _ _ hf
def pX10_finish_b90 (E : EC) (g : MT) (this : Nat) (p1 : Nat) (p2 : Int32) (l4 : Int32) (h : CT) : Option CT := lt (sI h this 12 (pJ9_max_7cf53 (hI h this 12) (hI h this 10))) fun h1 => (pX10_finish_b105 E g this p1 p2  l4 h1)
set_option maxRecDepth 10000 in
set_option maxHeartbeats 4000000 in
theorem pX10_finish_b90_ok {X : Cx} {G : Gx} {dk : Nat} {g : MT} {h0 : CT} {this : Nat} {p1 : Nat} {p2 : Int32} (Z : Zx X G cX10_finish RX10 6 dk none none g h0) (hK : 2 ≤ dk) {E : EC} (hE : G.2.2.2 = E) (t0 : gT g this = 9) (l4 : Int32) (h : CT) (hf : pX10_finish_b90 E g this p1 p2 l4 h = some h0) : J X g h 90 [(0, va_rf (some this)), (1, va_rf (some p1)), (2, .int p2), (4, .int l4)] [] := by
  unfold pX10_finish_b90 at hf
  refine J_aload_n Z.1 0 dX10_finish_90 rfl rfl ?_
  refine J_aload_n Z.1 0 dX10_finish_91 rfl rfl ?_
  refine J_get (v := .int (hI h this 12)) Z.1 dX10_finish_92 fl_X10_64 t0 rfl ?_
  refine J_aload_n Z.1 0 dX10_finish_95 rfl rfl ?_
  refine J_get (v := .int (hI h this 10)) Z.1 dX10_finish_96 fl_X10_58 t0 rfl ?_
  refine J_callS (as := [.int (hI h this 12), .int (hI h this 10)]) (rest := [va_rf (some this)]) (sy := [.int (pJ9_max_7cf53 (hI h this 12) (hI h this 10)), va_rf (some this)]) Z.1 dX10_finish_99 cw_X10_77 (pJ9_max_7cf53_ok G (dk - 1) (by omega) g h (hI h this 12) (hI h this 10)) (zG Z) rfl (by simp [cat_i, cat_l, cat_d, cat_rf]) (zF Z (by omega)) (zO Z (by omega) (by decide)) (zM _) Z.2.1 Z.2.1 rfl rfl ?_
  refine J_putI Z.1 dX10_finish_102 fl_X10_64 (fun q => by cases q) t0 rfl rfl (congrArg Value.int (hI_s _ _ _ _)) ?_
  refine J_th (fun h1 eh1 => ?_)
  replace hf := lt_i hf h1 eh1
  exact pX10_finish_b105_ok Z hK hE t0  _ _ hf
def pX10_finish_b71 (E : EC) (g : MT) (this : Nat) (p1 : Nat) (p2 : Int32) (l4 : Int32) (h : CT) : Option CT := tg g p1 2 (if (hI h p1 8) = 0 then lt (hR h p1 0) fun r3 => (nn r3 fun a3 => (tg E.2.2 a3 60 (bd (pX5_does E g h a3 16) fun x5 => (if x5 = 0 then pX10_finish_b105 E g this p1 p2  l4 h else pX10_finish_b90 E g this p1 p2  l4 h)))) else pX10_finish_b90 E g this p1 p2  l4 h)
set_option maxRecDepth 10000 in
set_option maxHeartbeats 4000000 in
theorem pX10_finish_b71_ok {X : Cx} {G : Gx} {dk : Nat} {g : MT} {h0 : CT} {this : Nat} {p1 : Nat} {p2 : Int32} (Z : Zx X G cX10_finish RX10 6 dk none none g h0) (hK : 2 ≤ dk) {E : EC} (hE : G.2.2.2 = E) (t0 : gT g this = 9) (l4 : Int32) (h : CT) (hf : pX10_finish_b71 E g this p1 p2 l4 h = some h0) : J X g h 71 [(0, va_rf (some this)), (1, va_rf (some p1)), (2, .int p2), (4, .int l4)] [] := by
  unfold pX10_finish_b71 at hf
  refine J_aload_n Z.1 1 dX10_finish_71 rfl rfl ?_
  replace hf := tg_i hf
  obtain ⟨t1, hf⟩ := hf
  refine J_get (v := .int (hI h p1 8)) Z.1 dX10_finish_72 fl_X10_156 t1 rfl ?_
  refine J_if_ne Z.1 90 dX10_finish_75 (by decide) (fun c2 => ?_) (fun c2 => ?_)
  · rw [if_neg c2] at hf
    exact pX10_finish_b90_ok Z hK hE t0  _ _ hf
  · rw [if_pos c2] at hf
    refine J_aload_n Z.1 1 dX10_finish_78 rfl rfl ?_
    refine J_get (v := va_rf (hR h p1 0)) Z.1 dX10_finish_79 fl_X10_86 t1 rfl ?_
    refine J_tr (fun r3 er3 => ?_)
    replace hf := lt_i hf r3 er3
    refine J_bipush Z.1 (v := 16) (by decide) dX10_finish_82 ?_
    replace hf := nn_i hf
    obtain ⟨a3, rfl, hf⟩ := hf
    replace hf := tg_i hf
    obtain ⟨t4, hf⟩ := hf
    rw [← zE Z hE] at t4
    replace hf := bd_i hf
    obtain ⟨x5, q6, hf⟩ := hf
    refine J_callK (as := [.int 16]) (rest := []) (sy := [.int x5]) Z.1 dX10_finish_84 cw_X10_101 (pX5_does_ok G (dk - 1) (by omega) hE q6) (kO Z.1 t4) (zG Z) rfl (by decide) (zF Z (by omega)) (zO Z (by omega) (by decide)) (zM _) Z.2.1 Z.2.1 rfl rfl ?_
    refine J_if_eq Z.1 105 dX10_finish_87 (by decide) (fun c7 => ?_) (fun c7 => ?_)
    · rw [if_pos c7] at hf
      exact pX10_finish_b105_ok Z hK hE t0  _ _ hf
    · rw [if_neg c7] at hf
      exact pX10_finish_b90_ok Z hK hE t0  _ _ hf
def pX10_finish_b47 (E : EC) (g : MT) (this : Nat) (p1 : Nat) (p2 : Int32) (l4 : Int32) (h : CT) : Option CT := tg g p1 2 (lt (hR h p1 0) fun r2 => (nn r2 fun a2 => (tg E.2.2 a2 60 (bd (pX5_does E g h a2 32) fun x4 => (if x4 = 0 then pX10_finish_b71 E g this p1 p2  l4 h else lt (sI h this 11 l4) fun h7 => (bd (pX10_note g h7 this l4) fun h8 => (pX10_finish_b71 E g this p1 p2  l4 h8)))))))
set_option maxRecDepth 10000 in
set_option maxHeartbeats 4000000 in
theorem pX10_finish_b47_ok {X : Cx} {G : Gx} {dk : Nat} {g : MT} {h0 : CT} {this : Nat} {p1 : Nat} {p2 : Int32} (Z : Zx X G cX10_finish RX10 6 dk none none g h0) (hK : 2 ≤ dk) {E : EC} (hE : G.2.2.2 = E) (t0 : gT g this = 9) (l4 : Int32) (h : CT) (hf : pX10_finish_b47 E g this p1 p2 l4 h = some h0) : J X g h 47 [(0, va_rf (some this)), (1, va_rf (some p1)), (2, .int p2), (4, .int l4)] [] := by
  unfold pX10_finish_b47 at hf
  refine J_aload_n Z.1 1 dX10_finish_47 rfl rfl ?_
  replace hf := tg_i hf
  obtain ⟨t1, hf⟩ := hf
  refine J_get (v := va_rf (hR h p1 0)) Z.1 dX10_finish_48 fl_X10_86 t1 rfl ?_
  refine J_tr (fun r2 er2 => ?_)
  replace hf := lt_i hf r2 er2
  refine J_bipush Z.1 (v := 32) (by decide) dX10_finish_51 ?_
  replace hf := nn_i hf
  obtain ⟨a2, rfl, hf⟩ := hf
  replace hf := tg_i hf
  obtain ⟨t3, hf⟩ := hf
  rw [← zE Z hE] at t3
  replace hf := bd_i hf
  obtain ⟨x4, q5, hf⟩ := hf
  refine J_callK (as := [.int 32]) (rest := []) (sy := [.int x4]) Z.1 dX10_finish_53 cw_X10_101 (pX5_does_ok G (dk - 1) (by omega) hE q5) (kO Z.1 t3) (zG Z) rfl (by decide) (zF Z (by omega)) (zO Z (by omega) (by decide)) (zM _) Z.2.1 Z.2.1 rfl rfl ?_
  refine J_if_eq Z.1 71 dX10_finish_56 (by decide) (fun c6 => ?_) (fun c6 => ?_)
  · rw [if_pos c6] at hf
    exact pX10_finish_b71_ok Z hK hE t0  _ _ hf
  · rw [if_neg c6] at hf
    refine J_aload_n Z.1 0 dX10_finish_59 rfl rfl ?_
    refine J_iload Z.1 3 dX10_finish_60 rfl ?_
    refine J_putI Z.1 dX10_finish_62 fl_X10_61 (fun q => by cases q) t0 rfl rfl (congrArg Value.int (hI_s _ _ _ _)) ?_
    refine J_th (fun h7 eh7 => ?_)
    replace hf := lt_i hf h7 eh7
    refine J_aload_n Z.1 0 dX10_finish_65 rfl rfl ?_
    refine J_iload Z.1 3 dX10_finish_66 rfl ?_
    replace hf := bd_i hf
    obtain ⟨h8, q9, hf⟩ := hf
    refine J_callV (ci := 8) (as := [.int l4]) (rest := []) (sy := []) Z.1 dX10_finish_68 cw_X10_82 (pX10_note_ok G (dk - 1) (by omega) q9) rfl rfl t0 (zG Z) rfl (by decide) (zF Z (by omega)) (zO Z (by omega) (by decide)) (zM _) Z.2.1 Z.2.1 rfl rfl ?_
    exact pX10_finish_b71_ok Z hK hE t0  _ _ hf
def pX10_finish (E : EC) (g : MT) (h : CT) (this : Nat) (p1 : Nat) (p2 : Int32) : Option CT := tg g this 9 (tg g p1 2 (lt (hR h p1 0) fun r2 => (nn r2 fun a2 => (tg E.2.2 a2 60 (lt (hI E.2.1 a2 2) fun x4 => (lt (hR h p1 0) fun r5 => (nn r5 fun a5 => (tg E.2.2 a5 60 (bd (pX5_latency E g h a5) fun x7 => (lt ((hI h this 10) + x7) fun x9 => (if x4 < 0 then pX10_finish_b47 E g this p1 p2  x9 h else lt (hR h this 13) fun r11 => (nn r11 fun a11 => (tg g a11 20 (if (Int32.ofNat (gL g a11)) ≤ x4 then pX10_finish_b47 E g this p1 p2  x9 h else lt (hR h this 13) fun r14 => (nn r14 fun a14 => (tg g a14 20 (ix (gL g a14) x4 (lt (sI h a14 (Int32.toNatClampNeg x4) ((hI h this 10) + 1)) fun h17 => (pX10_finish_b47 E g this p1 p2  x9 h17)))))))))))))))))))
set_option maxRecDepth 10000 in
set_option maxHeartbeats 4000000 in
theorem pX10_finish_ok (G : Gx) (dk : Nat) (hK : 2 ≤ dk) {g : MT} {E : EC} (hE : G.2.2.2 = E) {h h0 : CT} {this : Nat} {p1 : Nat} {p2 : Int32} (hf : pX10_finish E g h this p1 p2 = some h0) : Ctr G dk yX10_finish cX10_finish 6 none [va_rf (some this), va_rf (some p1), .int p2] g h none g h0 := by
  refine Ctr.ofZ (lv := [(0, va_rf (some this)), (1, va_rf (some p1)), (2, .int p2)]) (by decide +kernel) (by simp [cat_i, cat_l, cat_d, cat_rf]) rfl fun X Z => ?_
  unfold pX10_finish at hf
  replace hf := tg_i hf
  obtain ⟨t0, hf⟩ := hf
  refine J_aload_n Z.1 1 dX10_finish_0 rfl rfl ?_
  replace hf := tg_i hf
  obtain ⟨t1, hf⟩ := hf
  refine J_get (v := va_rf (hR h p1 0)) Z.1 dX10_finish_1 fl_X10_86 t1 rfl ?_
  refine J_tr (fun r2 er2 => ?_)
  replace hf := lt_i hf r2 er2
  replace hf := nn_i hf
  obtain ⟨a2, rfl, hf⟩ := hf
  replace hf := tg_i hf
  obtain ⟨t3, hf⟩ := hf
  rw [← zE Z hE] at t3
  refine J_getO (k := 2) (v := .int (hI E.2.1 a2 2)) Z.1 dX10_finish_4 rfl t3 q_2180 (by rw [zE Z hE]; rfl) rfl ?_
  refine J_ti (fun x4 ex4 => ?_)
  replace hf := lt_i hf x4 ex4
  refine J_istore_n Z.1 (lv2 := [(3, .int x4), (0, va_rf (some this)), (1, va_rf (some p1)), (2, .int p2)]) dX10_finish_7 rfl (zL Z (by decide)) rfl ?_
  refine J_aload_n Z.1 1 dX10_finish_8 rfl rfl ?_
  refine J_get (v := .int (hI h this 10)) Z.1 dX10_finish_9 fl_X10_58 t0 rfl ?_
  refine J_aload_n Z.1 2 dX10_finish_12 rfl rfl ?_
  refine J_get (v := va_rf (hR h p1 0)) Z.1 dX10_finish_13 fl_X10_86 t1 rfl ?_
  refine J_tr (fun r5 er5 => ?_)
  replace hf := lt_i hf r5 er5
  replace hf := nn_i hf
  obtain ⟨a5, rfl, hf⟩ := hf
  replace hf := tg_i hf
  obtain ⟨t6, hf⟩ := hf
  rw [← zE Z hE] at t6
  replace hf := bd_i hf
  obtain ⟨x7, q8, hf⟩ := hf
  refine J_callK (as := []) (rest := [.int (hI h this 10)]) (sy := [.int x7, .int (hI h this 10)]) Z.1 dX10_finish_16 cw_X10_121 (pX5_latency_ok G (dk - 1) (by omega) hE q8) (kO Z.1 t6) (zG Z) rfl (by simp [cat_i, cat_l, cat_d, cat_rf]) (zF Z (by omega)) (zO Z (by omega) (by decide)) (zM _) Z.2.1 Z.2.1 rfl rfl ?_
  refine J_iadd Z.1 dX10_finish_19 ?_
  refine J_ti (fun x9 ex9 => ?_)
  replace hf := lt_i hf x9 ex9
  refine J_istore Z.1 (lv2 := [(4, .int x9), (3, .int x4), (0, va_rf (some this)), (1, va_rf (some p1)), (2, .int p2)]) dX10_finish_20 (zL Z (by decide)) rfl ?_
  refine J_iload_n Z.1 1 dX10_finish_22 rfl rfl ?_
  refine J_if_lt Z.1 47 dX10_finish_23 (by decide) (fun c10 => ?_) (fun c10 => ?_)
  · rw [if_pos c10] at hf
    refine J_lv [2, 3, 4, 0] rfl ?_
    exact pX10_finish_b47_ok Z hK hE t0  _ _ hf
  · rw [if_neg c10] at hf
    refine J_iload_n Z.1 1 dX10_finish_26 rfl rfl ?_
    refine J_aload_n Z.1 2 dX10_finish_27 rfl rfl ?_
    refine J_get (v := va_rf (hR h this 13)) Z.1 dX10_finish_28 fl_X10_21 t0 rfl ?_
    refine J_tr (fun r11 er11 => ?_)
    replace hf := lt_i hf r11 er11
    replace hf := nn_i hf
    obtain ⟨a11, rfl, hf⟩ := hf
    replace hf := tg_i hf
    obtain ⟨t12, hf⟩ := hf
    refine J_alen (t := 0) Z.1 dX10_finish_31 t12 rfl ?_
    refine J_icmp_ge Z.1 47 dX10_finish_32 (by decide) (fun c13 => ?_) (fun c13 => ?_)
    · rw [if_pos c13] at hf
      refine J_lv [2, 3, 4, 0] rfl ?_
      exact pX10_finish_b47_ok Z hK hE t0  _ _ hf
    · rw [if_neg c13] at hf
      refine J_aload_n Z.1 2 dX10_finish_35 rfl rfl ?_
      refine J_get (v := va_rf (hR h this 13)) Z.1 dX10_finish_36 fl_X10_21 t0 rfl ?_
      refine J_tr (fun r14 er14 => ?_)
      replace hf := lt_i hf r14 er14
      refine J_iload_n Z.1 1 dX10_finish_39 rfl rfl ?_
      refine J_aload_n Z.1 2 dX10_finish_40 rfl rfl ?_
      refine J_get (v := .int (hI h this 10)) Z.1 dX10_finish_41 fl_X10_58 t0 rfl ?_
      refine J_iconst Z.1 (v := 1) (by decide) dX10_finish_44 ?_
      refine J_iadd Z.1 dX10_finish_45 ?_
      replace hf := nn_i hf
      obtain ⟨a14, rfl, hf⟩ := hf
      replace hf := tg_i hf
      obtain ⟨t15, hf⟩ := hf
      replace hf := ix_i hf
      obtain ⟨i16, hf⟩ := hf
      refine J_iastore Z.1 dX10_finish_46 t15 i16 ?_
      refine J_th (fun h17 eh17 => ?_)
      replace hf := lt_i hf h17 eh17
      refine J_lv [2, 3, 4, 0] rfl ?_
      exact pX10_finish_b47_ok Z hK hE t0  _ _ hf
theorem dX10_flip_0 : decode cX10_flip 0 = .ok (.aload_n 0, 1) := by decide +kernel
theorem dX10_flip_1 : decode cX10_flip 1 = .ok (.aload_n 0, 1) := by decide +kernel
theorem dX10_flip_2 : decode cX10_flip 2 = .ok (.getfield 64, 3) := by decide +kernel
theorem dX10_flip_5 : decode cX10_flip 5 = .ok (.aload_n 0, 1) := by decide +kernel
theorem dX10_flip_6 : decode cX10_flip 6 = .ok (.getfield 52, 3) := by decide +kernel
theorem dX10_flip_9 : decode cX10_flip 9 = .ok (.invokestatic 77, 3) := by decide +kernel
theorem dX10_flip_12 : decode cX10_flip 12 = .ok (.putfield 64, 3) := by decide +kernel
theorem dX10_flip_15 : decode cX10_flip 15 = .ok (.aload_n 0, 1) := by decide +kernel
theorem dX10_flip_16 : decode cX10_flip 16 = .ok (.aload_n 0, 1) := by decide +kernel
theorem dX10_flip_17 : decode cX10_flip 17 = .ok (.getfield 52, 3) := by decide +kernel
theorem dX10_flip_20 : decode cX10_flip 20 = .ok (.iconst 1, 1) := by decide +kernel
theorem dX10_flip_21 : decode cX10_flip 21 = .ok (.iadd, 1) := by decide +kernel
theorem dX10_flip_22 : decode cX10_flip 22 = .ok (.putfield 61, 3) := by decide +kernel
theorem dX10_flip_25 : decode cX10_flip 25 = .ok (.aload_n 0, 1) := by decide +kernel
theorem dX10_flip_26 : decode cX10_flip 26 = .ok (.aload_n 0, 1) := by decide +kernel
theorem dX10_flip_27 : decode cX10_flip 27 = .ok (.getfield 61, 3) := by decide +kernel
theorem dX10_flip_30 : decode cX10_flip 30 = .ok (.invokevirtual 82, 3) := by decide +kernel
theorem dX10_flip_33 : decode cX10_flip 33 = .ok (.return_, 1) := by decide +kernel
def pX10_flip (g : MT) (h : CT) (this : Nat) : Option CT := tg g this 9 (lt (sI h this 12 (pJ9_max_7cf53 (hI h this 12) (hI h this 8))) fun h1 => (lt (sI h1 this 11 ((hI h1 this 8) + 1)) fun h2 => (bd (pX10_note g h2 this (hI h2 this 11)) fun h3 => (some h3))))
set_option maxRecDepth 10000 in
set_option maxHeartbeats 4000000 in
theorem pX10_flip_ok (G : Gx) (dk : Nat) (hK : 1 ≤ dk) {g : MT} {h h0 : CT} {this : Nat} (hf : pX10_flip g h this = some h0) : Ctr G dk yX10_flip cX10_flip 1 none [va_rf (some this)] g h none g h0 := by
  refine Ctr.ofZ (lv := [(0, va_rf (some this))]) (by decide +kernel) (by simp [cat_i, cat_l, cat_d, cat_rf]) rfl fun X Z => ?_
  unfold pX10_flip at hf
  replace hf := tg_i hf
  obtain ⟨t0, hf⟩ := hf
  refine J_aload_n Z.1 0 dX10_flip_0 rfl rfl ?_
  refine J_aload_n Z.1 0 dX10_flip_1 rfl rfl ?_
  refine J_get (v := .int (hI h this 12)) Z.1 dX10_flip_2 fl_X10_64 t0 rfl ?_
  refine J_aload_n Z.1 0 dX10_flip_5 rfl rfl ?_
  refine J_get (v := .int (hI h this 8)) Z.1 dX10_flip_6 fl_X10_52 t0 rfl ?_
  refine J_callS (as := [.int (hI h this 12), .int (hI h this 8)]) (rest := [va_rf (some this)]) (sy := [.int (pJ9_max_7cf53 (hI h this 12) (hI h this 8)), va_rf (some this)]) Z.1 dX10_flip_9 cw_X10_77 (pJ9_max_7cf53_ok G (dk - 1) (by omega) g h (hI h this 12) (hI h this 8)) (zG Z) rfl (by simp [cat_i, cat_l, cat_d, cat_rf]) (zF Z (by omega)) (zO Z (by omega) (by decide)) (zM _) Z.2.1 Z.2.1 rfl rfl ?_
  refine J_putI Z.1 dX10_flip_12 fl_X10_64 (fun q => by cases q) t0 rfl rfl (congrArg Value.int (hI_s _ _ _ _)) ?_
  refine J_th (fun h1 eh1 => ?_)
  replace hf := lt_i hf h1 eh1
  refine J_aload_n Z.1 0 dX10_flip_15 rfl rfl ?_
  refine J_aload_n Z.1 0 dX10_flip_16 rfl rfl ?_
  refine J_get (v := .int (hI h1 this 8)) Z.1 dX10_flip_17 fl_X10_52 t0 rfl ?_
  refine J_iconst Z.1 (v := 1) (by decide) dX10_flip_20 ?_
  refine J_iadd Z.1 dX10_flip_21 ?_
  refine J_putI Z.1 dX10_flip_22 fl_X10_61 (fun q => by cases q) t0 rfl rfl (congrArg Value.int (hI_s _ _ _ _)) ?_
  refine J_th (fun h2 eh2 => ?_)
  replace hf := lt_i hf h2 eh2
  refine J_aload_n Z.1 0 dX10_flip_25 rfl rfl ?_
  refine J_aload_n Z.1 0 dX10_flip_26 rfl rfl ?_
  refine J_get (v := .int (hI h2 this 11)) Z.1 dX10_flip_27 fl_X10_61 t0 rfl ?_
  replace hf := bd_i hf
  obtain ⟨h3, q4, hf⟩ := hf
  refine J_callV (ci := 8) (as := [.int (hI h2 this 11)]) (rest := []) (sy := []) Z.1 dX10_flip_30 cw_X10_82 (pX10_note_ok G (dk - 1) (by omega) q4) rfl rfl t0 (zG Z) rfl (by decide) (zF Z (by omega)) (zO Z (by omega) (by decide)) (zM _) Z.2.1 Z.2.1 rfl rfl ?_
  cases hf
  exact J_vret Z.1 Z.2.2.2.2.2 dX10_flip_33
theorem dX10_count_0 : decode cX10_count 0 = .ok (.aload_n 0, 1) := by decide +kernel
theorem dX10_count_1 : decode cX10_count 1 = .ok (.aload_n 0, 1) := by decide +kernel
theorem dX10_count_2 : decode cX10_count 2 = .ok (.getfield 64, 3) := by decide +kernel
theorem dX10_count_5 : decode cX10_count 5 = .ok (.aload_n 0, 1) := by decide +kernel
theorem dX10_count_6 : decode cX10_count 6 = .ok (.getfield 52, 3) := by decide +kernel
theorem dX10_count_9 : decode cX10_count 9 = .ok (.invokestatic 77, 3) := by decide +kernel
theorem dX10_count_12 : decode cX10_count 12 = .ok (.putfield 64, 3) := by decide +kernel
theorem dX10_count_15 : decode cX10_count 15 = .ok (.aload_n 0, 1) := by decide +kernel
theorem dX10_count_16 : decode cX10_count 16 = .ok (.aload_n 0, 1) := by decide +kernel
theorem dX10_count_17 : decode cX10_count 17 = .ok (.getfield 52, 3) := by decide +kernel
theorem dX10_count_20 : decode cX10_count 20 = .ok (.iconst 1, 1) := by decide +kernel
theorem dX10_count_21 : decode cX10_count 21 = .ok (.iadd, 1) := by decide +kernel
theorem dX10_count_22 : decode cX10_count 22 = .ok (.putfield 55, 3) := by decide +kernel
theorem dX10_count_25 : decode cX10_count 25 = .ok (.aload_n 0, 1) := by decide +kernel
theorem dX10_count_26 : decode cX10_count 26 = .ok (.iload_n 1, 1) := by decide +kernel
theorem dX10_count_27 : decode cX10_count 27 = .ok (.aload_n 0, 1) := by decide +kernel
theorem dX10_count_28 : decode cX10_count 28 = .ok (.getfield 55, 3) := by decide +kernel
theorem dX10_count_31 : decode cX10_count 31 = .ok (.invokevirtual 140, 3) := by decide +kernel
theorem dX10_count_34 : decode cX10_count 34 = .ok (.return_, 1) := by decide +kernel
def pX10_count (g : MT) (h : CT) (this : Nat) (p1 : Int32) : Option CT := tg g this 9 (lt (sI h this 12 (pJ9_max_7cf53 (hI h this 12) (hI h this 8))) fun h1 => (lt (sI h1 this 9 ((hI h1 this 8) + 1)) fun h2 => (bd (pX10_endAt g h2 this p1 (hI h2 this 9)) fun h3 => (some h3))))
set_option maxRecDepth 10000 in
set_option maxHeartbeats 4000000 in
theorem pX10_count_ok (G : Gx) (dk : Nat) (hK : 2 ≤ dk) {g : MT} {h h0 : CT} {this : Nat} {p1 : Int32} (hf : pX10_count g h this p1 = some h0) : Ctr G dk yX10_count cX10_count 2 none [va_rf (some this), .int p1] g h none g h0 := by
  refine Ctr.ofZ (lv := [(0, va_rf (some this)), (1, .int p1)]) (by decide +kernel) (by simp [cat_i, cat_l, cat_d, cat_rf]) rfl fun X Z => ?_
  unfold pX10_count at hf
  replace hf := tg_i hf
  obtain ⟨t0, hf⟩ := hf
  refine J_aload_n Z.1 0 dX10_count_0 rfl rfl ?_
  refine J_aload_n Z.1 0 dX10_count_1 rfl rfl ?_
  refine J_get (v := .int (hI h this 12)) Z.1 dX10_count_2 fl_X10_64 t0 rfl ?_
  refine J_aload_n Z.1 0 dX10_count_5 rfl rfl ?_
  refine J_get (v := .int (hI h this 8)) Z.1 dX10_count_6 fl_X10_52 t0 rfl ?_
  refine J_callS (as := [.int (hI h this 12), .int (hI h this 8)]) (rest := [va_rf (some this)]) (sy := [.int (pJ9_max_7cf53 (hI h this 12) (hI h this 8)), va_rf (some this)]) Z.1 dX10_count_9 cw_X10_77 (pJ9_max_7cf53_ok G (dk - 1) (by omega) g h (hI h this 12) (hI h this 8)) (zG Z) rfl (by simp [cat_i, cat_l, cat_d, cat_rf]) (zF Z (by omega)) (zO Z (by omega) (by decide)) (zM _) Z.2.1 Z.2.1 rfl rfl ?_
  refine J_putI Z.1 dX10_count_12 fl_X10_64 (fun q => by cases q) t0 rfl rfl (congrArg Value.int (hI_s _ _ _ _)) ?_
  refine J_th (fun h1 eh1 => ?_)
  replace hf := lt_i hf h1 eh1
  refine J_aload_n Z.1 0 dX10_count_15 rfl rfl ?_
  refine J_aload_n Z.1 0 dX10_count_16 rfl rfl ?_
  refine J_get (v := .int (hI h1 this 8)) Z.1 dX10_count_17 fl_X10_52 t0 rfl ?_
  refine J_iconst Z.1 (v := 1) (by decide) dX10_count_20 ?_
  refine J_iadd Z.1 dX10_count_21 ?_
  refine J_putI Z.1 dX10_count_22 fl_X10_55 (fun q => by cases q) t0 rfl rfl (congrArg Value.int (hI_s _ _ _ _)) ?_
  refine J_th (fun h2 eh2 => ?_)
  replace hf := lt_i hf h2 eh2
  refine J_aload_n Z.1 0 dX10_count_25 rfl rfl ?_
  refine J_iload_n Z.1 1 dX10_count_26 rfl rfl ?_
  refine J_aload_n Z.1 0 dX10_count_27 rfl rfl ?_
  refine J_get (v := .int (hI h2 this 9)) Z.1 dX10_count_28 fl_X10_55 t0 rfl ?_
  replace hf := bd_i hf
  obtain ⟨h3, q4, hf⟩ := hf
  refine J_callV (ci := 8) (as := [.int p1, .int (hI h2 this 9)]) (rest := []) (sy := []) Z.1 dX10_count_31 cw_X10_140 (pX10_endAt_ok G (dk - 1) (by omega) q4) rfl rfl t0 (zG Z) rfl (by decide) (zF Z (by omega)) (zO Z (by omega) (by decide)) (zM _) Z.2.1 Z.2.1 rfl rfl ?_
  cases hf
  exact J_vret Z.1 Z.2.2.2.2.2 dX10_count_34
theorem dX10_fold_0 : decode cX10_fold 0 = .ok (.iconst 0, 1) := by decide +kernel
theorem dX10_fold_1 : decode cX10_fold 1 = .ok (.istore 5, 2) := by decide +kernel
theorem dX10_fold_3 : decode cX10_fold 3 = .ok (.iload 5, 2) := by decide +kernel
theorem dX10_fold_5 : decode cX10_fold 5 = .ok (.iload_n 3, 1) := by decide +kernel
theorem dX10_fold_6 : decode cX10_fold 6 = .ok (.if_icmp .ge 23, 3) := by decide +kernel
theorem dX10_fold_9 : decode cX10_fold 9 = .ok (.aload_n 0, 1) := by decide +kernel
theorem dX10_fold_10 : decode cX10_fold 10 = .ok (.aload_n 2, 1) := by decide +kernel
theorem dX10_fold_11 : decode cX10_fold 11 = .ok (.getfield 118, 3) := by decide +kernel
theorem dX10_fold_14 : decode cX10_fold 14 = .ok (.iload 5, 2) := by decide +kernel
theorem dX10_fold_16 : decode cX10_fold 16 = .ok (.aload_n 0, 1) := by decide +kernel
theorem dX10_fold_17 : decode cX10_fold 17 = .ok (.getfield 52, 3) := by decide +kernel
theorem dX10_fold_20 : decode cX10_fold 20 = .ok (.invokevirtual 153, 3) := by decide +kernel
theorem dX10_fold_23 : decode cX10_fold 23 = .ok (.iinc 5 1, 3) := by decide +kernel
theorem dX10_fold_26 : decode cX10_fold 26 = .ok (.goto (-23), 3) := by decide +kernel
theorem dX10_fold_29 : decode cX10_fold 29 = .ok (.aload_n 0, 1) := by decide +kernel
theorem dX10_fold_30 : decode cX10_fold 30 = .ok (.aload_n 0, 1) := by decide +kernel
theorem dX10_fold_31 : decode cX10_fold 31 = .ok (.getfield 52, 3) := by decide +kernel
theorem dX10_fold_34 : decode cX10_fold 34 = .ok (.iconst 3, 1) := by decide +kernel
theorem dX10_fold_35 : decode cX10_fold 35 = .ok (.iload 4, 2) := by decide +kernel
theorem dX10_fold_37 : decode cX10_fold 37 = .ok (.imul, 1) := by decide +kernel
theorem dX10_fold_38 : decode cX10_fold 38 = .ok (.iadd, 1) := by decide +kernel
theorem dX10_fold_39 : decode cX10_fold 39 = .ok (.putfield 55, 3) := by decide +kernel
theorem dX10_fold_42 : decode cX10_fold 42 = .ok (.aload_n 0, 1) := by decide +kernel
theorem dX10_fold_43 : decode cX10_fold 43 = .ok (.iload_n 1, 1) := by decide +kernel
theorem dX10_fold_44 : decode cX10_fold 44 = .ok (.aload_n 0, 1) := by decide +kernel
theorem dX10_fold_45 : decode cX10_fold 45 = .ok (.getfield 55, 3) := by decide +kernel
theorem dX10_fold_48 : decode cX10_fold 48 = .ok (.invokevirtual 140, 3) := by decide +kernel
theorem dX10_fold_51 : decode cX10_fold 51 = .ok (.return_, 1) := by decide +kernel
def pX10_fold_b3 (g : MT) (this : Nat) (p1 : Int32) (p2 : Nat) (p3 : Int32) (p4 : Int32) (k3 : Int32 → CT → Option CT) (l5 : Int32) (h : CT) : Option CT := if p3 ≤ l5 then lt (sI h this 9 ((hI h this 8) + (3 * p4))) fun h2 => (bd (pX10_endAt g h2 this p1 (hI h2 this 9)) fun h3 => (some h3)) else tg g p2 2 (bd (pX10_readNow g h this (hI h p2 1) l5 (hI h this 8)) fun h6 => (lt (l5 + 1) fun x8 => (k3 x8 h6)))
set_option maxRecDepth 10000 in
set_option maxHeartbeats 4000000 in
theorem pX10_fold_b3_ok {X : Cx} {G : Gx} {dk : Nat} {g : MT} {h0 : CT} {this : Nat} {p1 : Int32} {p2 : Nat} {p3 : Int32} {p4 : Int32} {k3 : Int32 → CT → Option CT} (Z : Zx X G cX10_fold RX10 6 dk none none g h0) (hK : 2 ≤ dk) (t0 : gT g this = 9) (hk3 : ∀ (l5 : Int32) (h : CT), k3 l5 h = some h0 → J X g h 3 [(0, va_rf (some this)), (1, .int p1), (2, va_rf (some p2)), (3, .int p3), (4, .int p4), (5, .int l5)] []) (l5 : Int32) (h : CT) (hf : pX10_fold_b3 g this p1 p2 p3 p4 k3 l5 h = some h0) : J X g h 3 [(0, va_rf (some this)), (1, .int p1), (2, va_rf (some p2)), (3, .int p3), (4, .int p4), (5, .int l5)] [] := by
  unfold pX10_fold_b3 at hf
  refine J_iload Z.1 5 dX10_fold_3 rfl ?_
  refine J_iload_n Z.1 3 dX10_fold_5 rfl rfl ?_
  refine J_icmp_ge Z.1 29 dX10_fold_6 (by decide) (fun c1 => ?_) (fun c1 => ?_)
  · rw [if_pos c1] at hf
    refine J_aload_n Z.1 0 dX10_fold_29 rfl rfl ?_
    refine J_aload_n Z.1 0 dX10_fold_30 rfl rfl ?_
    refine J_get (v := .int (hI h this 8)) Z.1 dX10_fold_31 fl_X10_52 t0 rfl ?_
    refine J_iconst Z.1 (v := 3) (by decide) dX10_fold_34 ?_
    refine J_iload Z.1 4 dX10_fold_35 rfl ?_
    refine J_imul Z.1 dX10_fold_37 ?_
    refine J_iadd Z.1 dX10_fold_38 ?_
    refine J_putI Z.1 dX10_fold_39 fl_X10_55 (fun q => by cases q) t0 rfl rfl (congrArg Value.int (hI_s _ _ _ _)) ?_
    refine J_th (fun h2 eh2 => ?_)
    replace hf := lt_i hf h2 eh2
    refine J_aload_n Z.1 0 dX10_fold_42 rfl rfl ?_
    refine J_iload_n Z.1 1 dX10_fold_43 rfl rfl ?_
    refine J_aload_n Z.1 0 dX10_fold_44 rfl rfl ?_
    refine J_get (v := .int (hI h2 this 9)) Z.1 dX10_fold_45 fl_X10_55 t0 rfl ?_
    replace hf := bd_i hf
    obtain ⟨h3, q4, hf⟩ := hf
    refine J_callV (ci := 8) (as := [.int p1, .int (hI h2 this 9)]) (rest := []) (sy := []) Z.1 dX10_fold_48 cw_X10_140 (pX10_endAt_ok G (dk - 1) (by omega) q4) rfl rfl t0 (zG Z) rfl (by decide) (zF Z (by omega)) (zO Z (by omega) (by decide)) (zM _) Z.2.1 Z.2.1 rfl rfl ?_
    cases hf
    exact J_vret Z.1 Z.2.2.2.2.2 dX10_fold_51
  · rw [if_neg c1] at hf
    refine J_aload_n Z.1 0 dX10_fold_9 rfl rfl ?_
    refine J_aload_n Z.1 2 dX10_fold_10 rfl rfl ?_
    replace hf := tg_i hf
    obtain ⟨t5, hf⟩ := hf
    refine J_get (v := .int (hI h p2 1)) Z.1 dX10_fold_11 fl_X10_118 t5 rfl ?_
    refine J_iload Z.1 5 dX10_fold_14 rfl ?_
    refine J_aload_n Z.1 0 dX10_fold_16 rfl rfl ?_
    refine J_get (v := .int (hI h this 8)) Z.1 dX10_fold_17 fl_X10_52 t0 rfl ?_
    replace hf := bd_i hf
    obtain ⟨h6, q7, hf⟩ := hf
    refine J_callV (ci := 8) (as := [.int (hI h p2 1), .int l5, .int (hI h this 8)]) (rest := []) (sy := []) Z.1 dX10_fold_20 cw_X10_153 (pX10_readNow_ok G (dk - 1) (by omega) q7) rfl rfl t0 (zG Z) rfl (by decide) (zF Z (by omega)) (zO Z (by omega) (by decide)) (zM _) Z.2.1 Z.2.1 rfl rfl ?_
    refine J_iinc Z.1 (v := 1) (lv2 := [(5, .int (l5 + 1)), (0, va_rf (some this)), (1, .int p1), (2, va_rf (some p2)), (3, .int p3), (4, .int p4)]) 5 dX10_fold_23 rfl (by decide) (zL Z (by decide)) rfl ?_
    obtain ⟨x8, ex8⟩ : ∃ z, z = (l5 + 1) := ⟨_, rfl⟩
    replace hf := lt_i hf x8 ex8
    rw [← ex8]
    refine J_goto Z.1 3 dX10_fold_26 (by decide) ?_
    refine J_lv [1, 2, 3, 4, 5, 0] rfl ?_
    exact hk3 _ _ hf
def pX10_fold_l3 (g : MT) (this : Nat) (p1 : Int32) (p2 : Nat) (p3 : Int32) (p4 : Int32) : Nat → Int32 → CT → Option CT
  | 0, _, _ => none
  | n + 1, l5, h => pX10_fold_b3 g this p1 p2 p3 p4 (pX10_fold_l3 g this p1 p2 p3 p4 n) l5 h
theorem pX10_fold_l3_ok {X : Cx} {G : Gx} {dk : Nat} {g : MT} {h0 : CT} {this : Nat} {p1 : Int32} {p2 : Nat} {p3 : Int32} {p4 : Int32} (Z : Zx X G cX10_fold RX10 6 dk none none g h0) (hK : 2 ≤ dk) (t0 : gT g this = 9) : ∀ (n : Nat) (l5 : Int32) (h : CT), pX10_fold_l3 g this p1 p2 p3 p4 n l5 h = some h0 → J X g h 3 [(0, va_rf (some this)), (1, .int p1), (2, va_rf (some p2)), (3, .int p3), (4, .int p4), (5, .int l5)] [] := by
  intro n
  induction n with
  | zero => intro l5 h hf; cases hf
  | succ n ih => intro l5 h hf; exact pX10_fold_b3_ok Z hK t0 ih l5 h hf
def pX10_fold (g : MT) (h : CT) (this : Nat) (p1 : Int32) (p2 : Nat) (p3 : Int32) (p4 : Int32) : Option CT := tg g this 9 (pX10_fold_l3 g this p1 p2 p3 p4  FUEL 0 h)
set_option maxRecDepth 10000 in
set_option maxHeartbeats 4000000 in
theorem pX10_fold_ok (G : Gx) (dk : Nat) (hK : 2 ≤ dk) {g : MT} {h h0 : CT} {this : Nat} {p1 : Int32} {p2 : Nat} {p3 : Int32} {p4 : Int32} (hf : pX10_fold g h this p1 p2 p3 p4 = some h0) : Ctr G dk yX10_fold cX10_fold 6 none [va_rf (some this), .int p1, va_rf (some p2), .int p3, .int p4] g h none g h0 := by
  refine Ctr.ofZ (lv := [(0, va_rf (some this)), (1, .int p1), (2, va_rf (some p2)), (3, .int p3), (4, .int p4)]) (by decide +kernel) (by simp [cat_i, cat_l, cat_d, cat_rf]) rfl fun X Z => ?_
  unfold pX10_fold at hf
  replace hf := tg_i hf
  obtain ⟨t0, hf⟩ := hf
  refine J_iconst Z.1 (v := 0) (by decide) dX10_fold_0 ?_
  refine J_istore Z.1 (lv2 := [(5, .int 0), (0, va_rf (some this)), (1, .int p1), (2, va_rf (some p2)), (3, .int p3), (4, .int p4)]) dX10_fold_1 (zL Z (by decide)) rfl ?_
  refine J_lv [1, 2, 3, 4, 5, 0] rfl ?_
  exact pX10_fold_l3_ok Z hK t0  FUEL _ _ hf
theorem dX10_stallsAlone_0 : decode cX10_stallsAlone 0 = .ok (.aload_n 0, 1) := by decide +kernel
theorem dX10_stallsAlone_1 : decode cX10_stallsAlone 1 = .ok (.getfield 30, 3) := by decide +kernel
theorem dX10_stallsAlone_4 : decode cX10_stallsAlone 4 = .ok (.iconst 0, 1) := by decide +kernel
theorem dX10_stallsAlone_5 : decode cX10_stallsAlone 5 = .ok (.invokestatic 67, 3) := by decide +kernel
theorem dX10_stallsAlone_8 : decode cX10_stallsAlone 8 = .ok (.aload_n 0, 1) := by decide +kernel
theorem dX10_stallsAlone_9 : decode cX10_stallsAlone 9 = .ok (.iconst 0, 1) := by decide +kernel
theorem dX10_stallsAlone_10 : decode cX10_stallsAlone 10 = .ok (.putfield 37, 3) := by decide +kernel
theorem dX10_stallsAlone_13 : decode cX10_stallsAlone 13 = .ok (.iconst 0, 1) := by decide +kernel
theorem dX10_stallsAlone_14 : decode cX10_stallsAlone 14 = .ok (.istore 6, 2) := by decide +kernel
theorem dX10_stallsAlone_16 : decode cX10_stallsAlone 16 = .ok (.iconst 0, 1) := by decide +kernel
theorem dX10_stallsAlone_17 : decode cX10_stallsAlone 17 = .ok (.istore 7, 2) := by decide +kernel
theorem dX10_stallsAlone_19 : decode cX10_stallsAlone 19 = .ok (.iload 7, 2) := by decide +kernel
theorem dX10_stallsAlone_21 : decode cX10_stallsAlone 21 = .ok (.iload_n 3, 1) := by decide +kernel
theorem dX10_stallsAlone_22 : decode cX10_stallsAlone 22 = .ok (.if_icmp .ge 38, 3) := by decide +kernel
theorem dX10_stallsAlone_25 : decode cX10_stallsAlone 25 = .ok (.iload 4, 2) := by decide +kernel
theorem dX10_stallsAlone_27 : decode cX10_stallsAlone 27 = .ok (.ifCond .le 33, 3) := by decide +kernel
theorem dX10_stallsAlone_30 : decode cX10_stallsAlone 30 = .ok (.aload_n 0, 1) := by decide +kernel
theorem dX10_stallsAlone_31 : decode cX10_stallsAlone 31 = .ok (.iload 6, 2) := by decide +kernel
theorem dX10_stallsAlone_33 : decode cX10_stallsAlone 33 = .ok (.iload_n 1, 1) := by decide +kernel
theorem dX10_stallsAlone_34 : decode cX10_stallsAlone 34 = .ok (.iload_n 2, 1) := by decide +kernel
theorem dX10_stallsAlone_35 : decode cX10_stallsAlone 35 = .ok (.iload 7, 2) := by decide +kernel
theorem dX10_stallsAlone_37 : decode cX10_stallsAlone 37 = .ok (.imul, 1) := by decide +kernel
theorem dX10_stallsAlone_38 : decode cX10_stallsAlone 38 = .ok (.iadd, 1) := by decide +kernel
theorem dX10_stallsAlone_39 : decode cX10_stallsAlone 39 = .ok (.bipush 64, 2) := by decide +kernel
theorem dX10_stallsAlone_41 : decode cX10_stallsAlone 41 = .ok (.irem, 1) := by decide +kernel
theorem dX10_stallsAlone_42 : decode cX10_stallsAlone 42 = .ok (.iload 4, 2) := by decide +kernel
theorem dX10_stallsAlone_44 : decode cX10_stallsAlone 44 = .ok (.irem, 1) := by decide +kernel
theorem dX10_stallsAlone_45 : decode cX10_stallsAlone 45 = .ok (.iload 5, 2) := by decide +kernel
theorem dX10_stallsAlone_47 : decode cX10_stallsAlone 47 = .ok (.invokevirtual 128, 3) := by decide +kernel
theorem dX10_stallsAlone_50 : decode cX10_stallsAlone 50 = .ok (.iconst 1, 1) := by decide +kernel
theorem dX10_stallsAlone_51 : decode cX10_stallsAlone 51 = .ok (.iadd, 1) := by decide +kernel
theorem dX10_stallsAlone_52 : decode cX10_stallsAlone 52 = .ok (.istore 6, 2) := by decide +kernel
theorem dX10_stallsAlone_54 : decode cX10_stallsAlone 54 = .ok (.iinc 7 1, 3) := by decide +kernel
theorem dX10_stallsAlone_57 : decode cX10_stallsAlone 57 = .ok (.goto (-38), 3) := by decide +kernel
theorem dX10_stallsAlone_60 : decode cX10_stallsAlone 60 = .ok (.aload_n 0, 1) := by decide +kernel
theorem dX10_stallsAlone_61 : decode cX10_stallsAlone 61 = .ok (.getfield 37, 3) := by decide +kernel
theorem dX10_stallsAlone_64 : decode cX10_stallsAlone 64 = .ok (.ireturn, 1) := by decide +kernel
def pX10_stallsAlone_b19 (g : MT) (this : Nat) (p1 : Int32) (p2 : Int32) (p3 : Int32) (p4 : Int32) (p5 : Int32) (k19 : Int32 → Int32 → CT → Option ((Int32) × CT)) (l6 : Int32) (l7 : Int32) (h : CT) : Option ((Int32) × CT) := if p3 ≤ l7 then some ((hI h this 1), h) else if p4 ≤ 0 then some ((hI h this 1), h) else dvI p4 (bd2 (pX10_throughBank g h this l6 (((p1 + (p2 * l7)) - (p1 + (p2 * l7)) / 64 * 64) - ((p1 + (p2 * l7)) - (p1 + (p2 * l7)) / 64 * 64) / p4 * p4) p5) fun x6 h4 => (lt (x6 + 1) fun x7 => (lt (l7 + 1) fun x8 => (k19 x7 x8 h4))))
set_option maxRecDepth 10000 in
set_option maxHeartbeats 4000000 in
theorem pX10_stallsAlone_b19_ok {X : Cx} {G : Gx} {dk : Nat} {g : MT} {r0 : Int32} {h0 : CT} {this : Nat} {p1 : Int32} {p2 : Int32} {p3 : Int32} {p4 : Int32} {p5 : Int32} {k19 : Int32 → Int32 → CT → Option ((Int32) × CT)} (Z : Zx X G cX10_stallsAlone RX10 8 dk (some .int) (some (.int r0)) g h0) (hK : 2 ≤ dk) (t0 : gT g this = 9) (hk19 : ∀ (l6 : Int32) (l7 : Int32) (h : CT), k19 l6 l7 h = some (r0, h0) → J X g h 19 [(0, va_rf (some this)), (1, .int p1), (2, .int p2), (3, .int p3), (4, .int p4), (5, .int p5), (6, .int l6), (7, .int l7)] []) (l6 : Int32) (l7 : Int32) (h : CT) (hf : pX10_stallsAlone_b19 g this p1 p2 p3 p4 p5 k19 l6 l7 h = some (r0, h0)) : J X g h 19 [(0, va_rf (some this)), (1, .int p1), (2, .int p2), (3, .int p3), (4, .int p4), (5, .int p5), (6, .int l6), (7, .int l7)] [] := by
  unfold pX10_stallsAlone_b19 at hf
  refine J_iload Z.1 7 dX10_stallsAlone_19 rfl ?_
  refine J_iload_n Z.1 3 dX10_stallsAlone_21 rfl rfl ?_
  refine J_icmp_ge Z.1 60 dX10_stallsAlone_22 (by decide) (fun c1 => ?_) (fun c1 => ?_)
  · rw [if_pos c1] at hf
    refine J_aload_n Z.1 0 dX10_stallsAlone_60 rfl rfl ?_
    refine J_get (v := .int (hI h this 1)) Z.1 dX10_stallsAlone_61 fl_X10_37 t0 rfl ?_
    cases hf
    exact J_iret Z.1 Z.2.2.2.2.2 dX10_stallsAlone_64
  · rw [if_neg c1] at hf
    refine J_iload Z.1 4 dX10_stallsAlone_25 rfl ?_
    refine J_if_le Z.1 60 dX10_stallsAlone_27 (by decide) (fun c2 => ?_) (fun c2 => ?_)
    · rw [if_pos c2] at hf
      refine J_aload_n Z.1 0 dX10_stallsAlone_60 rfl rfl ?_
      refine J_get (v := .int (hI h this 1)) Z.1 dX10_stallsAlone_61 fl_X10_37 t0 rfl ?_
      cases hf
      exact J_iret Z.1 Z.2.2.2.2.2 dX10_stallsAlone_64
    · rw [if_neg c2] at hf
      refine J_aload_n Z.1 0 dX10_stallsAlone_30 rfl rfl ?_
      refine J_iload Z.1 6 dX10_stallsAlone_31 rfl ?_
      refine J_iload_n Z.1 1 dX10_stallsAlone_33 rfl rfl ?_
      refine J_iload_n Z.1 2 dX10_stallsAlone_34 rfl rfl ?_
      refine J_iload Z.1 7 dX10_stallsAlone_35 rfl ?_
      refine J_imul Z.1 dX10_stallsAlone_37 ?_
      refine J_iadd Z.1 dX10_stallsAlone_38 ?_
      refine J_bipush Z.1 (v := 64) (by decide) dX10_stallsAlone_39 ?_
      refine J_irem Z.1 (by decide) dX10_stallsAlone_41 ?_
      refine J_iload Z.1 4 dX10_stallsAlone_42 rfl ?_
      replace hf := dvI_i hf
      obtain ⟨z3, hf⟩ := hf
      refine J_irem Z.1 z3 dX10_stallsAlone_44 ?_
      refine J_iload Z.1 5 dX10_stallsAlone_45 rfl ?_
      replace hf := bd2_i hf
      obtain ⟨x6, h4, q5, hf⟩ := hf
      refine J_callV (ci := 8) (as := [.int l6, .int (((p1 + (p2 * l7)) - (p1 + (p2 * l7)) / 64 * 64) - ((p1 + (p2 * l7)) - (p1 + (p2 * l7)) / 64 * 64) / p4 * p4), .int p5]) (rest := []) (sy := [.int x6]) Z.1 dX10_stallsAlone_47 cw_X10_128 (pX10_throughBank_ok G (dk - 1) (by omega) q5) rfl rfl t0 (zG Z) rfl (by decide) (zF Z (by omega)) (zO Z (by omega) (by decide)) (zM _) Z.2.1 Z.2.1 rfl rfl ?_
      refine J_iconst Z.1 (v := 1) (by decide) dX10_stallsAlone_50 ?_
      refine J_iadd Z.1 dX10_stallsAlone_51 ?_
      refine J_ti (fun x7 ex7 => ?_)
      replace hf := lt_i hf x7 ex7
      refine J_istore Z.1 (lv2 := [(6, .int x7), (0, va_rf (some this)), (1, .int p1), (2, .int p2), (3, .int p3), (4, .int p4), (5, .int p5), (7, .int l7)]) dX10_stallsAlone_52 (zL Z (by decide)) rfl ?_
      refine J_iinc Z.1 (v := 1) (lv2 := [(7, .int (l7 + 1)), (6, .int x7), (0, va_rf (some this)), (1, .int p1), (2, .int p2), (3, .int p3), (4, .int p4), (5, .int p5)]) 7 dX10_stallsAlone_54 rfl (by decide) (zL Z (by decide)) rfl ?_
      obtain ⟨x8, ex8⟩ : ∃ z, z = (l7 + 1) := ⟨_, rfl⟩
      replace hf := lt_i hf x8 ex8
      rw [← ex8]
      refine J_goto Z.1 19 dX10_stallsAlone_57 (by decide) ?_
      refine J_lv [2, 3, 4, 5, 6, 7, 1, 0] rfl ?_
      exact hk19 _ _ _ hf
def pX10_stallsAlone_l19 (g : MT) (this : Nat) (p1 : Int32) (p2 : Int32) (p3 : Int32) (p4 : Int32) (p5 : Int32) : Nat → Int32 → Int32 → CT → Option ((Int32) × CT)
  | 0, _, _, _ => none
  | n + 1, l6, l7, h => pX10_stallsAlone_b19 g this p1 p2 p3 p4 p5 (pX10_stallsAlone_l19 g this p1 p2 p3 p4 p5 n) l6 l7 h
theorem pX10_stallsAlone_l19_ok {X : Cx} {G : Gx} {dk : Nat} {g : MT} {r0 : Int32} {h0 : CT} {this : Nat} {p1 : Int32} {p2 : Int32} {p3 : Int32} {p4 : Int32} {p5 : Int32} (Z : Zx X G cX10_stallsAlone RX10 8 dk (some .int) (some (.int r0)) g h0) (hK : 2 ≤ dk) (t0 : gT g this = 9) : ∀ (n : Nat) (l6 : Int32) (l7 : Int32) (h : CT), pX10_stallsAlone_l19 g this p1 p2 p3 p4 p5 n l6 l7 h = some (r0, h0) → J X g h 19 [(0, va_rf (some this)), (1, .int p1), (2, .int p2), (3, .int p3), (4, .int p4), (5, .int p5), (6, .int l6), (7, .int l7)] [] := by
  intro n
  induction n with
  | zero => intro l6 l7 h hf; cases hf
  | succ n ih => intro l6 l7 h hf; exact pX10_stallsAlone_b19_ok Z hK t0 ih l6 l7 h hf
def pX10_stallsAlone (g : MT) (h : CT) (this : Nat) (p1 : Int32) (p2 : Int32) (p3 : Int32) (p4 : Int32) (p5 : Int32) : Option ((Int32) × CT) := tg g this 9 (lt (hR h this 16) fun r1 => (nn r1 fun a1 => (bd (pJ7_fill_53178 g h a1 0) fun h2 => (lt (sI h2 this 1 0) fun h4 => (pX10_stallsAlone_l19 g this p1 p2 p3 p4 p5  FUEL 0 0 h4)))))
set_option maxRecDepth 10000 in
set_option maxHeartbeats 4000000 in
theorem pX10_stallsAlone_ok (G : Gx) (dk : Nat) (hK : 2 ≤ dk) {g : MT} {h h0 : CT} {this : Nat} {p1 : Int32} {p2 : Int32} {p3 : Int32} {p4 : Int32} {p5 : Int32} {r0 : Int32} (hf : pX10_stallsAlone g h this p1 p2 p3 p4 p5 = some (r0, h0)) : Ctr G dk yX10_stallsAlone cX10_stallsAlone 8 (some .int) [va_rf (some this), .int p1, .int p2, .int p3, .int p4, .int p5] g h (some (.int r0)) g h0 := by
  refine Ctr.ofZ (lv := [(0, va_rf (some this)), (1, .int p1), (2, .int p2), (3, .int p3), (4, .int p4), (5, .int p5)]) (by decide +kernel) (by simp [cat_i, cat_l, cat_d, cat_rf]) rfl fun X Z => ?_
  unfold pX10_stallsAlone at hf
  replace hf := tg_i hf
  obtain ⟨t0, hf⟩ := hf
  refine J_aload_n Z.1 0 dX10_stallsAlone_0 rfl rfl ?_
  refine J_get (v := va_rf (hR h this 16)) Z.1 dX10_stallsAlone_1 fl_X10_30 t0 rfl ?_
  refine J_tr (fun r1 er1 => ?_)
  replace hf := lt_i hf r1 er1
  refine J_iconst Z.1 (v := 0) (by decide) dX10_stallsAlone_4 ?_
  replace hf := nn_i hf
  obtain ⟨a1, rfl, hf⟩ := hf
  replace hf := bd_i hf
  obtain ⟨h2, q3, hf⟩ := hf
  refine J_callS (as := [va_rf (some a1), .int 0]) (rest := []) (sy := []) Z.1 dX10_stallsAlone_5 cw_X10_67 (pJ7_fill_53178_ok G (dk - 1) (by omega) q3) (zG Z) rfl (by decide) (zF Z (by omega)) (zO Z (by omega) (by decide)) (zM _) Z.2.1 Z.2.1 rfl rfl ?_
  refine J_aload_n Z.1 0 dX10_stallsAlone_8 rfl rfl ?_
  refine J_iconst Z.1 (v := 0) (by decide) dX10_stallsAlone_9 ?_
  refine J_putI Z.1 dX10_stallsAlone_10 fl_X10_37 (fun q => by cases q) t0 rfl rfl (congrArg Value.int (hI_s _ _ _ _)) ?_
  refine J_th (fun h4 eh4 => ?_)
  replace hf := lt_i hf h4 eh4
  refine J_iconst Z.1 (v := 0) (by decide) dX10_stallsAlone_13 ?_
  refine J_istore Z.1 (lv2 := [(6, .int 0), (0, va_rf (some this)), (1, .int p1), (2, .int p2), (3, .int p3), (4, .int p4), (5, .int p5)]) dX10_stallsAlone_14 (zL Z (by decide)) rfl ?_
  refine J_iconst Z.1 (v := 0) (by decide) dX10_stallsAlone_16 ?_
  refine J_istore Z.1 (lv2 := [(7, .int 0), (6, .int 0), (0, va_rf (some this)), (1, .int p1), (2, .int p2), (3, .int p3), (4, .int p4), (5, .int p5)]) dX10_stallsAlone_17 (zL Z (by decide)) rfl ?_
  refine J_lv [2, 3, 4, 5, 6, 7, 1, 0] rfl ?_
  exact pX10_stallsAlone_l19_ok Z hK t0  FUEL _ _ _ hf
theorem dX3_init_0 : decode cX3_init 0 = .ok (.aload_n 0, 1) := by decide +kernel
theorem dX3_init_1 : decode cX3_init 1 = .ok (.invokespecial 3, 3) := by decide +kernel
theorem dX3_init_4 : decode cX3_init 4 = .ok (.aload_n 0, 1) := by decide +kernel
theorem dX3_init_5 : decode cX3_init 5 = .ok (.bipush 6, 2) := by decide +kernel
theorem dX3_init_7 : decode cX3_init 7 = .ok (.anewarray 9, 3) := by decide +kernel
theorem dX3_init_10 : decode cX3_init 10 = .ok (.putfield 11, 3) := by decide +kernel
theorem dX3_init_13 : decode cX3_init 13 = .ok (.iconst 0, 1) := by decide +kernel
theorem dX3_init_14 : decode cX3_init 14 = .ok (.istore_n 1, 1) := by decide +kernel
theorem dX3_init_15 : decode cX3_init 15 = .ok (.iload_n 1, 1) := by decide +kernel
theorem dX3_init_16 : decode cX3_init 16 = .ok (.bipush 6, 2) := by decide +kernel
theorem dX3_init_18 : decode cX3_init 18 = .ok (.if_icmp .ge 24, 3) := by decide +kernel
theorem dX3_init_21 : decode cX3_init 21 = .ok (.aload_n 0, 1) := by decide +kernel
theorem dX3_init_22 : decode cX3_init 22 = .ok (.getfield 11, 3) := by decide +kernel
theorem dX3_init_25 : decode cX3_init 25 = .ok (.iload_n 1, 1) := by decide +kernel
theorem dX3_init_26 : decode cX3_init 26 = .ok (.new 9, 3) := by decide +kernel
theorem dX3_init_29 : decode cX3_init 29 = .ok (.dup, 1) := by decide +kernel
theorem dX3_init_30 : decode cX3_init 30 = .ok (.bipush 16, 2) := by decide +kernel
theorem dX3_init_32 : decode cX3_init 32 = .ok (.invokespecial 17, 3) := by decide +kernel
theorem dX3_init_35 : decode cX3_init 35 = .ok (.aastore, 1) := by decide +kernel
theorem dX3_init_36 : decode cX3_init 36 = .ok (.iinc 1 1, 3) := by decide +kernel
theorem dX3_init_39 : decode cX3_init 39 = .ok (.goto (-24), 3) := by decide +kernel
theorem dX3_init_42 : decode cX3_init 42 = .ok (.aload_n 0, 1) := by decide +kernel
theorem dX3_init_43 : decode cX3_init 43 = .ok (.bipush 6, 2) := by decide +kernel
theorem dX3_init_45 : decode cX3_init 45 = .ok (.newarray .boolean, 2) := by decide +kernel
theorem dX3_init_47 : decode cX3_init 47 = .ok (.putfield 20, 3) := by decide +kernel
theorem dX3_init_50 : decode cX3_init 50 = .ok (.aload_n 0, 1) := by decide +kernel
theorem dX3_init_51 : decode cX3_init 51 = .ok (.new 9, 3) := by decide +kernel
theorem dX3_init_54 : decode cX3_init 54 = .ok (.dup, 1) := by decide +kernel
theorem dX3_init_55 : decode cX3_init 55 = .ok (.iconst 4, 1) := by decide +kernel
theorem dX3_init_56 : decode cX3_init 56 = .ok (.invokespecial 17, 3) := by decide +kernel
theorem dX3_init_59 : decode cX3_init 59 = .ok (.putfield 24, 3) := by decide +kernel
theorem dX3_init_62 : decode cX3_init 62 = .ok (.aload_n 0, 1) := by decide +kernel
theorem dX3_init_63 : decode cX3_init 63 = .ok (.new 9, 3) := by decide +kernel
theorem dX3_init_66 : decode cX3_init 66 = .ok (.dup, 1) := by decide +kernel
theorem dX3_init_67 : decode cX3_init 67 = .ok (.bipush 64, 2) := by decide +kernel
theorem dX3_init_69 : decode cX3_init 69 = .ok (.invokespecial 17, 3) := by decide +kernel
theorem dX3_init_72 : decode cX3_init 72 = .ok (.putfield 28, 3) := by decide +kernel
theorem dX3_init_75 : decode cX3_init 75 = .ok (.aload_n 0, 1) := by decide +kernel
theorem dX3_init_76 : decode cX3_init 76 = .ok (.bipush 16, 2) := by decide +kernel
theorem dX3_init_78 : decode cX3_init 78 = .ok (.putfield 31, 3) := by decide +kernel
theorem dX3_init_81 : decode cX3_init 81 = .ok (.aload_n 0, 1) := by decide +kernel
theorem dX3_init_82 : decode cX3_init 82 = .ok (.bipush 8, 2) := by decide +kernel
theorem dX3_init_84 : decode cX3_init 84 = .ok (.putfield 35, 3) := by decide +kernel
theorem dX3_init_87 : decode cX3_init 87 = .ok (.aload_n 0, 1) := by decide +kernel
theorem dX3_init_88 : decode cX3_init 88 = .ok (.iconst 4, 1) := by decide +kernel
theorem dX3_init_89 : decode cX3_init 89 = .ok (.putfield 38, 3) := by decide +kernel
theorem dX3_init_92 : decode cX3_init 92 = .ok (.aload_n 0, 1) := by decide +kernel
theorem dX3_init_93 : decode cX3_init 93 = .ok (.new 41, 3) := by decide +kernel
theorem dX3_init_96 : decode cX3_init 96 = .ok (.dup, 1) := by decide +kernel
theorem dX3_init_97 : decode cX3_init 97 = .ok (.invokespecial 43, 3) := by decide +kernel
theorem dX3_init_100 : decode cX3_init 100 = .ok (.putfield 44, 3) := by decide +kernel
theorem dX3_init_103 : decode cX3_init 103 = .ok (.return_, 1) := by decide +kernel
def pX3_init_b15 (this : Nat) (k15 : Int32 → MT → CT → Option (MT × CT)) (l1 : Int32) (g : MT) (h : CT) : Option (MT × CT) := if 6 ≤ l1 then gq Prod.fst (gA g 24 6) (lt (gA g 24 6) fun g2 => (lt (hZ h (gN g)) fun h3 => (lt (gN g) fun a4 => (tg g2 this 3 (lt (sR h3 this 1 (some a4)) fun h8 => (gq Prod.fst (gA g2 7 2) (lt (gA g2 7 2) fun g9 => (lt (hZ h8 (gN g2)) fun h10 => (lt (gN g2) fun a11 => (tg g9 a11 7 (bd2 (pX8_init g9 h10 a11 4) fun g15 h16 => (gq Prod.fst g15 (tg g15 this 3 (lt (sR h16 this 2 (some a11)) fun h21 => (gq Prod.fst (gA g15 7 2) (lt (gA g15 7 2) fun g22 => (lt (hZ h21 (gN g15)) fun h23 => (lt (gN g15) fun a24 => (tg g22 a24 7 (bd2 (pX8_init g22 h23 a24 64) fun g28 h29 => (gq Prod.fst g28 (tg g28 this 3 (lt (sR h29 this 3 (some a24)) fun h34 => (lt (sI h34 this 5 16) fun h35 => (lt (sI h35 this 6 8) fun h36 => (lt (sI h36 this 7 4) fun h37 => (gq Prod.fst (gA g28 6 2) (lt (gA g28 6 2) fun g38 => (lt (hZ h37 (gN g28)) fun h39 => (lt (gN g28) fun a40 => (tg g38 a40 6 (bd2 (pX7_init g38 h39 a40) fun g44 h45 => (gq Prod.fst g44 (tg g44 this 3 (lt (sR h45 this 8 (some a40)) fun h50 => (some (g44, h50))))))))))))))))))))))))))))))))))))) else tg g this 3 (lt (hR h this 0) fun r52 => (gq Prod.fst (gA g 7 2) (lt (gA g 7 2) fun g53 => (lt (hZ h (gN g)) fun h54 => (lt (gN g) fun a55 => (tg g53 a55 7 (bd2 (pX8_init g53 h54 a55 16) fun g59 h60 => (gq Prod.fst g59 (nn r52 fun a52 => (tg g59 a52 27 (ix (gL g59 a52) l1 (tg g59 a55 7 (lt (sR h60 a52 (Int32.toNatClampNeg l1) (some a55)) fun h67 => (lt (l1 + 1) fun x68 => (k15 x68 g59 h67)))))))))))))))
set_option maxRecDepth 10000 in
set_option maxHeartbeats 4000000 in
theorem pX3_init_b15_ok {X : Cx} {G : Gx} {dk : Nat} {g0 : MT} {h0 : CT} {this : Nat} {k15 : Int32 → MT → CT → Option (MT × CT)} (Z : Zy X G cX3_init RX3 2 dk none none "<init>" g0 h0) (hK : 2 ≤ dk) (hk15 : ∀ (l1 : Int32) (g : MT) (h : CT), RM X g → k15 l1 g h = some (g0, h0) → J X g h 15 [(0, va_rf (some this)), (1, .int l1)] []) (l1 : Int32) (g : MT) (h : CT) (M : RM X g) (hf : pX3_init_b15 this k15 l1 g h = some (g0, h0)) : J X g h 15 [(0, va_rf (some this)), (1, .int l1)] [] := by
  unfold pX3_init_b15 at hf
  refine J_iload_n Z.1 1 dX3_init_15 rfl rfl ?_
  refine J_bipush Z.1 (v := 6) (by decide) dX3_init_16 ?_
  refine J_icmp_ge Z.1 42 dX3_init_18 (by decide) (fun c1 => ?_) (fun c1 => ?_)
  · rw [if_pos c1] at hf
    refine J_aload_n Z.1 0 dX3_init_42 rfl rfl ?_
    refine J_bipush Z.1 (v := 6) (by decide) dX3_init_43 ?_
    replace hf := gq_i hf
    obtain ⟨n5, hf⟩ := hf
    have M6 := rmA Z M n5
    refine J_newa (t := 4) (N := 6) .boolean Z.1 dX3_init_45 rfl rfl (by decide) (fun _ q => by cases q) q_266 (by decide) (by decide) (by decide) M M6 ?_
    refine J_tg (fun g2 eg2 => ?_)
    rw [← eg2] at M6
    replace hf := lt_i hf g2 eg2
    refine J_th (fun h3 eh3 => ?_)
    replace hf := lt_i hf h3 eh3
    refine J_ta (fun a4 ea4 => ?_)
    replace hf := lt_i hf a4 ea4
    replace hf := tg_i hf
    obtain ⟨t7, hf⟩ := hf
    refine J_putR Z.1 dX3_init_47 fl_X3_20 (fun _ => ⟨Z.2.2.2.2.2.2.2, _, rfl, rfl⟩) t7 (Or.inr ⟨_, rfl⟩) ?_
    refine J_th (fun h8 eh8 => ?_)
    replace hf := lt_i hf h8 eh8
    refine J_aload_n Z.1 0 dX3_init_50 rfl rfl ?_
    replace hf := gq_i hf
    obtain ⟨n12, hf⟩ := hf
    have M13 := rmA Z M6 n12
    refine J_new (ci := 6) (r := (RX8, TX8, 2)) Z.1 dX3_init_51 rfl q_248 q_250 q_141 M6 M13 ?_
    refine J_tg (fun g9 eg9 => ?_)
    rw [← eg9] at M13
    replace hf := lt_i hf g9 eg9
    refine J_th (fun h10 eh10 => ?_)
    replace hf := lt_i hf h10 eh10
    refine J_ta (fun a11 ea11 => ?_)
    replace hf := lt_i hf a11 ea11
    refine J_dup Z.1 dX3_init_54 rfl ?_
    refine J_iconst Z.1 (v := 4) (by decide) dX3_init_55 ?_
    replace hf := tg_i hf
    obtain ⟨t14, hf⟩ := hf
    replace hf := bd2_i hf
    obtain ⟨g15, h16, q17, hf⟩ := hf
    replace hf := gq_i hf
    obtain ⟨n18, hf⟩ := hf
    have M19o := pX8_init_mono q17
    have M19 := rmC Z M13 M19o n18
    refine J_callI (as := [.int 4]) (rest := [va_rf (some a11), va_rf (some this)]) (sy := [va_rf (some a11), va_rf (some this)]) Z.1 dX3_init_56 cw_X3_17 (pX8_init_ok G (dk - 1) (by omega) q17) (yG Z) rfl (by simp [cat_i, cat_l, cat_d, cat_rf]) (yF Z (by omega)) (yO Z (by omega) (by decide)) M19o M13 M19 rfl rfl ?_
    replace hf := tg_i hf
    obtain ⟨t20, hf⟩ := hf
    refine J_putR Z.1 dX3_init_59 fl_X3_24 (fun _ => ⟨Z.2.2.2.2.2.2.2, _, rfl, rfl⟩) t20 (Or.inl ⟨_, rfl⟩) ?_
    refine J_th (fun h21 eh21 => ?_)
    replace hf := lt_i hf h21 eh21
    refine J_aload_n Z.1 0 dX3_init_62 rfl rfl ?_
    replace hf := gq_i hf
    obtain ⟨n25, hf⟩ := hf
    have M26 := rmA Z M19 n25
    refine J_new (ci := 6) (r := (RX8, TX8, 2)) Z.1 dX3_init_63 rfl q_248 q_250 q_141 M19 M26 ?_
    refine J_tg (fun g22 eg22 => ?_)
    rw [← eg22] at M26
    replace hf := lt_i hf g22 eg22
    refine J_th (fun h23 eh23 => ?_)
    replace hf := lt_i hf h23 eh23
    refine J_ta (fun a24 ea24 => ?_)
    replace hf := lt_i hf a24 ea24
    refine J_dup Z.1 dX3_init_66 rfl ?_
    refine J_bipush Z.1 (v := 64) (by decide) dX3_init_67 ?_
    replace hf := tg_i hf
    obtain ⟨t27, hf⟩ := hf
    replace hf := bd2_i hf
    obtain ⟨g28, h29, q30, hf⟩ := hf
    replace hf := gq_i hf
    obtain ⟨n31, hf⟩ := hf
    have M32o := pX8_init_mono q30
    have M32 := rmC Z M26 M32o n31
    refine J_callI (as := [.int 64]) (rest := [va_rf (some a24), va_rf (some this)]) (sy := [va_rf (some a24), va_rf (some this)]) Z.1 dX3_init_69 cw_X3_17 (pX8_init_ok G (dk - 1) (by omega) q30) (yG Z) rfl (by simp [cat_i, cat_l, cat_d, cat_rf]) (yF Z (by omega)) (yO Z (by omega) (by decide)) M32o M26 M32 rfl rfl ?_
    replace hf := tg_i hf
    obtain ⟨t33, hf⟩ := hf
    refine J_putR Z.1 dX3_init_72 fl_X3_28 (fun _ => ⟨Z.2.2.2.2.2.2.2, _, rfl, rfl⟩) t33 (Or.inl ⟨_, rfl⟩) ?_
    refine J_th (fun h34 eh34 => ?_)
    replace hf := lt_i hf h34 eh34
    refine J_aload_n Z.1 0 dX3_init_75 rfl rfl ?_
    refine J_bipush Z.1 (v := 16) (by decide) dX3_init_76 ?_
    refine J_putI Z.1 dX3_init_78 fl_X3_31 (fun q => by cases q) t33 rfl rfl (congrArg Value.int (hI_s _ _ _ _)) ?_
    refine J_th (fun h35 eh35 => ?_)
    replace hf := lt_i hf h35 eh35
    refine J_aload_n Z.1 0 dX3_init_81 rfl rfl ?_
    refine J_bipush Z.1 (v := 8) (by decide) dX3_init_82 ?_
    refine J_putI Z.1 dX3_init_84 fl_X3_35 (fun q => by cases q) t33 rfl rfl (congrArg Value.int (hI_s _ _ _ _)) ?_
    refine J_th (fun h36 eh36 => ?_)
    replace hf := lt_i hf h36 eh36
    refine J_aload_n Z.1 0 dX3_init_87 rfl rfl ?_
    refine J_iconst Z.1 (v := 4) (by decide) dX3_init_88 ?_
    refine J_putI Z.1 dX3_init_89 fl_X3_38 (fun q => by cases q) t33 rfl rfl (congrArg Value.int (hI_s _ _ _ _)) ?_
    refine J_th (fun h37 eh37 => ?_)
    replace hf := lt_i hf h37 eh37
    refine J_aload_n Z.1 0 dX3_init_92 rfl rfl ?_
    replace hf := gq_i hf
    obtain ⟨n41, hf⟩ := hf
    have M42 := rmA Z M32 n41
    refine J_new (ci := 5) (r := (RX7, TX7, 2)) Z.1 dX3_init_93 rfl q_267 q_268 q_143 M32 M42 ?_
    refine J_tg (fun g38 eg38 => ?_)
    rw [← eg38] at M42
    replace hf := lt_i hf g38 eg38
    refine J_th (fun h39 eh39 => ?_)
    replace hf := lt_i hf h39 eh39
    refine J_ta (fun a40 ea40 => ?_)
    replace hf := lt_i hf a40 ea40
    refine J_dup Z.1 dX3_init_96 rfl ?_
    replace hf := tg_i hf
    obtain ⟨t43, hf⟩ := hf
    replace hf := bd2_i hf
    obtain ⟨g44, h45, q46, hf⟩ := hf
    replace hf := gq_i hf
    obtain ⟨n47, hf⟩ := hf
    have M48o := pX7_init_mono q46
    have M48 := rmC Z M42 M48o n47
    refine J_callI (as := []) (rest := [va_rf (some a40), va_rf (some this)]) (sy := [va_rf (some a40), va_rf (some this)]) Z.1 dX3_init_97 cw_X3_43 (pX7_init_ok G (dk - 1) (by omega) q46) (yG Z) rfl (by simp [cat_i, cat_l, cat_d, cat_rf]) (yF Z (by omega)) (yO Z (by omega) (by decide)) M48o M42 M48 rfl rfl ?_
    replace hf := tg_i hf
    obtain ⟨t49, hf⟩ := hf
    refine J_putR Z.1 dX3_init_100 fl_X3_44 (fun q => by cases q) t49 (Or.inl ⟨_, rfl⟩) ?_
    refine J_th (fun h50 eh50 => ?_)
    replace hf := lt_i hf h50 eh50
    cases hf
    exact J_vret Z.1 Z.2.2.2.2.1 dX3_init_103
  · rw [if_neg c1] at hf
    refine J_aload_n Z.1 0 dX3_init_21 rfl rfl ?_
    replace hf := tg_i hf
    obtain ⟨t51, hf⟩ := hf
    refine J_get (v := va_rf (hR h this 0)) Z.1 dX3_init_22 fl_X3_11 t51 rfl ?_
    refine J_tr (fun r52 er52 => ?_)
    replace hf := lt_i hf r52 er52
    refine J_iload_n Z.1 1 dX3_init_25 rfl rfl ?_
    replace hf := gq_i hf
    obtain ⟨n56, hf⟩ := hf
    have M57 := rmA Z M n56
    refine J_new (ci := 6) (r := (RX8, TX8, 2)) Z.1 dX3_init_26 rfl q_248 q_250 q_141 M M57 ?_
    refine J_tg (fun g53 eg53 => ?_)
    rw [← eg53] at M57
    replace hf := lt_i hf g53 eg53
    refine J_th (fun h54 eh54 => ?_)
    replace hf := lt_i hf h54 eh54
    refine J_ta (fun a55 ea55 => ?_)
    replace hf := lt_i hf a55 ea55
    refine J_dup Z.1 dX3_init_29 rfl ?_
    refine J_bipush Z.1 (v := 16) (by decide) dX3_init_30 ?_
    replace hf := tg_i hf
    obtain ⟨t58, hf⟩ := hf
    replace hf := bd2_i hf
    obtain ⟨g59, h60, q61, hf⟩ := hf
    replace hf := gq_i hf
    obtain ⟨n62, hf⟩ := hf
    have M63o := pX8_init_mono q61
    have M63 := rmC Z M57 M63o n62
    refine J_callI (as := [.int 16]) (rest := [va_rf (some a55), .int l1, va_rf r52]) (sy := [va_rf (some a55), .int l1, va_rf r52]) Z.1 dX3_init_32 cw_X3_17 (pX8_init_ok G (dk - 1) (by omega) q61) (yG Z) rfl (by simp [cat_i, cat_l, cat_d, cat_rf]) (yF Z (by omega)) (yO Z (by omega) (by decide)) M63o M57 M63 rfl rfl ?_
    replace hf := nn_i hf
    obtain ⟨a52, rfl, hf⟩ := hf
    replace hf := tg_i hf
    obtain ⟨t64, hf⟩ := hf
    replace hf := ix_i hf
    obtain ⟨i65, hf⟩ := hf
    replace hf := tg_i hf
    obtain ⟨t66, hf⟩ := hf
    refine J_aastore (t := 7) (ci := 6) (r := (RX8, TX8, 2)) Z.1 dX3_init_35 t64 rfl rfl t66 i65 ?_
    refine J_th (fun h67 eh67 => ?_)
    replace hf := lt_i hf h67 eh67
    refine J_iinc Z.1 (v := 1) (lv2 := [(1, .int (l1 + 1)), (0, va_rf (some this))]) 1 dX3_init_36 rfl (by decide) (yL Z (by decide)) rfl ?_
    obtain ⟨x68, ex68⟩ : ∃ z, z = (l1 + 1) := ⟨_, rfl⟩
    replace hf := lt_i hf x68 ex68
    rw [← ex68]
    refine J_goto Z.1 15 dX3_init_39 (by decide) ?_
    refine J_lv [1, 0] rfl ?_
    exact hk15 _ _ _ M63 hf
def pX3_init_l15 (this : Nat) : Nat → Int32 → MT → CT → Option (MT × CT)
  | 0, _, _, _ => none
  | n + 1, l1, g, h => pX3_init_b15 this (pX3_init_l15 this n) l1 g h
theorem pX3_init_l15_ok {X : Cx} {G : Gx} {dk : Nat} {g0 : MT} {h0 : CT} {this : Nat} (Z : Zy X G cX3_init RX3 2 dk none none "<init>" g0 h0) (hK : 2 ≤ dk) : ∀ (n : Nat) (l1 : Int32) (g : MT) (h : CT), RM X g → pX3_init_l15 this n l1 g h = some (g0, h0) → J X g h 15 [(0, va_rf (some this)), (1, .int l1)] [] := by
  intro n
  induction n with
  | zero => intro l1 g h M hf; cases hf
  | succ n ih => intro l1 g h M hf; exact pX3_init_b15_ok Z hK ih l1 g h M hf
def pX3_init (g : MT) (h : CT) (this : Nat) : Option (MT × CT) := gq Prod.fst g (gq Prod.fst (gA g 27 6) (lt (gA g 27 6) fun g1 => (lt (hZ h (gN g)) fun h2 => (lt (gN g) fun a3 => (tg g1 this 3 (lt (sR h2 this 0 (some a3)) fun h7 => (pX3_init_l15 this  FUEL 0 g1 h7)))))))
theorem pX3_init_mono {g g0 : MT} {h h0 : CT} {this : Nat} (hf : pX3_init g h this = some (g0, h0)) : gN g ≤ gN g0 ∧ gU g ≤ gU g0 := by
  unfold pX3_init at hf
  exact (gq_i hf).1
set_option maxRecDepth 10000 in
set_option maxHeartbeats 4000000 in
theorem pX3_init_ok (G : Gx) (dk : Nat) (hK : 2 ≤ dk) {g g0 : MT} {h h0 : CT} {this : Nat} (hf : pX3_init g h this = some (g0, h0)) : Ctr G dk yX3_init cX3_init 2 none [va_rf (some this)] g h none g0 h0 := by
  unfold pX3_init at hf
  replace hf := gq_i hf
  obtain ⟨hm, hf⟩ := hf
  refine Ctr.ofY (lv := [(0, va_rf (some this))]) (by decide +kernel) (by simp [cat_i, cat_l, cat_d, cat_rf]) rfl hm fun X Z M => ?_
  refine J_aload_n Z.1 0 dX3_init_0 rfl rfl ?_
  refine J_objInit Z.1 dX3_init_1 q_247 q_168 q_169 (yO2 Z (by omega) (by simp [cat_i, cat_l, cat_d, cat_rf])) (yF Z (d := 0) (by omega)) ?_
  refine J_aload_n Z.1 0 dX3_init_4 rfl rfl ?_
  refine J_bipush Z.1 (v := 6) (by decide) dX3_init_5 ?_
  replace hf := gq_i hf
  obtain ⟨n4, hf⟩ := hf
  have M5 := rmA Z M n4
  refine J_newq (t := 7) (N := 6) Z.1 dX3_init_7 rfl q_248 (kaoX8 Z.1) (by decide) (by decide) (by decide) M M5 ?_
  refine J_tg (fun g1 eg1 => ?_)
  rw [← eg1] at M5
  replace hf := lt_i hf g1 eg1
  refine J_th (fun h2 eh2 => ?_)
  replace hf := lt_i hf h2 eh2
  refine J_ta (fun a3 ea3 => ?_)
  replace hf := lt_i hf a3 ea3
  replace hf := tg_i hf
  obtain ⟨t6, hf⟩ := hf
  refine J_putR Z.1 dX3_init_10 fl_X3_11 (fun _ => ⟨Z.2.2.2.2.2.2.2, _, rfl, rfl⟩) t6 (Or.inr ⟨_, rfl⟩) ?_
  refine J_th (fun h7 eh7 => ?_)
  replace hf := lt_i hf h7 eh7
  refine J_iconst Z.1 (v := 0) (by decide) dX3_init_13 ?_
  refine J_istore_n Z.1 (lv2 := [(1, .int 0), (0, va_rf (some this))]) dX3_init_14 rfl (yL Z (by decide)) rfl ?_
  refine J_lv [1, 0] rfl ?_
  exact pX3_init_l15_ok Z hK  FUEL _ _ _ M5 hf
theorem dX3_copyFrom_0 : decode cX3_copyFrom 0 = .ok (.iconst 0, 1) := by decide +kernel
theorem dX3_copyFrom_1 : decode cX3_copyFrom 1 = .ok (.istore_n 2, 1) := by decide +kernel
theorem dX3_copyFrom_2 : decode cX3_copyFrom 2 = .ok (.iload_n 2, 1) := by decide +kernel
theorem dX3_copyFrom_3 : decode cX3_copyFrom 3 = .ok (.bipush 6, 2) := by decide +kernel
theorem dX3_copyFrom_5 : decode cX3_copyFrom 5 = .ok (.if_icmp .ge 36, 3) := by decide +kernel
theorem dX3_copyFrom_8 : decode cX3_copyFrom 8 = .ok (.aload_n 0, 1) := by decide +kernel
theorem dX3_copyFrom_9 : decode cX3_copyFrom 9 = .ok (.getfield 20, 3) := by decide +kernel
theorem dX3_copyFrom_12 : decode cX3_copyFrom 12 = .ok (.iload_n 2, 1) := by decide +kernel
theorem dX3_copyFrom_13 : decode cX3_copyFrom 13 = .ok (.aload_n 1, 1) := by decide +kernel
theorem dX3_copyFrom_14 : decode cX3_copyFrom 14 = .ok (.getfield 20, 3) := by decide +kernel
theorem dX3_copyFrom_17 : decode cX3_copyFrom 17 = .ok (.iload_n 2, 1) := by decide +kernel
theorem dX3_copyFrom_18 : decode cX3_copyFrom 18 = .ok (.baload, 1) := by decide +kernel
theorem dX3_copyFrom_19 : decode cX3_copyFrom 19 = .ok (.bastore, 1) := by decide +kernel
theorem dX3_copyFrom_20 : decode cX3_copyFrom 20 = .ok (.aload_n 0, 1) := by decide +kernel
theorem dX3_copyFrom_21 : decode cX3_copyFrom 21 = .ok (.getfield 11, 3) := by decide +kernel
theorem dX3_copyFrom_24 : decode cX3_copyFrom 24 = .ok (.iload_n 2, 1) := by decide +kernel
theorem dX3_copyFrom_25 : decode cX3_copyFrom 25 = .ok (.aaload, 1) := by decide +kernel
theorem dX3_copyFrom_26 : decode cX3_copyFrom 26 = .ok (.aload_n 1, 1) := by decide +kernel
theorem dX3_copyFrom_27 : decode cX3_copyFrom 27 = .ok (.getfield 11, 3) := by decide +kernel
theorem dX3_copyFrom_30 : decode cX3_copyFrom 30 = .ok (.iload_n 2, 1) := by decide +kernel
theorem dX3_copyFrom_31 : decode cX3_copyFrom 31 = .ok (.aaload, 1) := by decide +kernel
theorem dX3_copyFrom_32 : decode cX3_copyFrom 32 = .ok (.invokevirtual 48, 3) := by decide +kernel
theorem dX3_copyFrom_35 : decode cX3_copyFrom 35 = .ok (.iinc 2 1, 3) := by decide +kernel
theorem dX3_copyFrom_38 : decode cX3_copyFrom 38 = .ok (.goto (-36), 3) := by decide +kernel
theorem dX3_copyFrom_41 : decode cX3_copyFrom 41 = .ok (.aload_n 0, 1) := by decide +kernel
theorem dX3_copyFrom_42 : decode cX3_copyFrom 42 = .ok (.getfield 24, 3) := by decide +kernel
theorem dX3_copyFrom_45 : decode cX3_copyFrom 45 = .ok (.aload_n 1, 1) := by decide +kernel
theorem dX3_copyFrom_46 : decode cX3_copyFrom 46 = .ok (.getfield 24, 3) := by decide +kernel
theorem dX3_copyFrom_49 : decode cX3_copyFrom 49 = .ok (.invokevirtual 48, 3) := by decide +kernel
theorem dX3_copyFrom_52 : decode cX3_copyFrom 52 = .ok (.aload_n 0, 1) := by decide +kernel
theorem dX3_copyFrom_53 : decode cX3_copyFrom 53 = .ok (.getfield 28, 3) := by decide +kernel
theorem dX3_copyFrom_56 : decode cX3_copyFrom 56 = .ok (.aload_n 1, 1) := by decide +kernel
theorem dX3_copyFrom_57 : decode cX3_copyFrom 57 = .ok (.getfield 28, 3) := by decide +kernel
theorem dX3_copyFrom_60 : decode cX3_copyFrom 60 = .ok (.invokevirtual 48, 3) := by decide +kernel
theorem dX3_copyFrom_63 : decode cX3_copyFrom 63 = .ok (.aload_n 0, 1) := by decide +kernel
theorem dX3_copyFrom_64 : decode cX3_copyFrom 64 = .ok (.aload_n 1, 1) := by decide +kernel
theorem dX3_copyFrom_65 : decode cX3_copyFrom 65 = .ok (.getfield 52, 3) := by decide +kernel
theorem dX3_copyFrom_68 : decode cX3_copyFrom 68 = .ok (.putfield 52, 3) := by decide +kernel
theorem dX3_copyFrom_71 : decode cX3_copyFrom 71 = .ok (.aload_n 0, 1) := by decide +kernel
theorem dX3_copyFrom_72 : decode cX3_copyFrom 72 = .ok (.aload_n 1, 1) := by decide +kernel
theorem dX3_copyFrom_73 : decode cX3_copyFrom 73 = .ok (.getfield 31, 3) := by decide +kernel
theorem dX3_copyFrom_76 : decode cX3_copyFrom 76 = .ok (.putfield 31, 3) := by decide +kernel
theorem dX3_copyFrom_79 : decode cX3_copyFrom 79 = .ok (.aload_n 0, 1) := by decide +kernel
theorem dX3_copyFrom_80 : decode cX3_copyFrom 80 = .ok (.aload_n 1, 1) := by decide +kernel
theorem dX3_copyFrom_81 : decode cX3_copyFrom 81 = .ok (.getfield 35, 3) := by decide +kernel
theorem dX3_copyFrom_84 : decode cX3_copyFrom 84 = .ok (.putfield 35, 3) := by decide +kernel
theorem dX3_copyFrom_87 : decode cX3_copyFrom 87 = .ok (.aload_n 0, 1) := by decide +kernel
theorem dX3_copyFrom_88 : decode cX3_copyFrom 88 = .ok (.aload_n 1, 1) := by decide +kernel
theorem dX3_copyFrom_89 : decode cX3_copyFrom 89 = .ok (.getfield 38, 3) := by decide +kernel
theorem dX3_copyFrom_92 : decode cX3_copyFrom 92 = .ok (.putfield 38, 3) := by decide +kernel
theorem dX3_copyFrom_95 : decode cX3_copyFrom 95 = .ok (.aload_n 0, 1) := by decide +kernel
theorem dX3_copyFrom_96 : decode cX3_copyFrom 96 = .ok (.aload_n 1, 1) := by decide +kernel
theorem dX3_copyFrom_97 : decode cX3_copyFrom 97 = .ok (.getfield 44, 3) := by decide +kernel
theorem dX3_copyFrom_100 : decode cX3_copyFrom 100 = .ok (.putfield 44, 3) := by decide +kernel
theorem dX3_copyFrom_103 : decode cX3_copyFrom 103 = .ok (.return_, 1) := by decide +kernel
def pX3_copyFrom_b2 (g : MT) (this : Nat) (p1 : Nat) (k2 : Int32 → CT → Option CT) (l2 : Int32) (h : CT) : Option CT := if 6 ≤ l2 then lt (hR h this 2) fun r2 => (tg g p1 3 (lt (hR h p1 2) fun r4 => (nn r2 fun a2 => (tg g a2 7 (nn r4 fun a4 => (bd (pX8_copyFrom g h a2 a4) fun h6 => (lt (hR h6 this 3) fun r8 => (lt (hR h6 p1 3) fun r9 => (nn r8 fun a8 => (tg g a8 7 (nn r9 fun a9 => (bd (pX8_copyFrom g h6 a8 a9) fun h11 => (lt (sI h11 this 4 (hI h11 p1 4)) fun h13 => (lt (sI h13 this 5 (hI h13 p1 5)) fun h14 => (lt (sI h14 this 6 (hI h14 p1 6)) fun h15 => (lt (sI h15 this 7 (hI h15 p1 7)) fun h16 => (lt (hR h16 p1 8) fun r17 => (lt (sR h16 this 8 r17) fun h18 => (some h18))))))))))))))))))) else lt (hR h this 1) fun r19 => (tg g p1 3 (lt (hR h p1 1) fun r21 => (nn r21 fun a21 => (tg g a21 24 (ix (gL g a21) l2 (nn r19 fun a19 => (tg g a19 24 (ix (gL g a19) l2 (lt (sI h a19 (Int32.toNatClampNeg l2) (vp_nar .boolean (hI h a21 (Int32.toNatClampNeg l2)))) fun h26 => (lt (hR h26 this 0) fun r27 => (nn r27 fun a27 => (tg g a27 27 (ix (gL g a27) l2 (lt (hR h26 a27 (Int32.toNatClampNeg l2)) fun r30 => (lt (hR h26 p1 0) fun r31 => (nn r31 fun a31 => (tg g a31 27 (ix (gL g a31) l2 (lt (hR h26 a31 (Int32.toNatClampNeg l2)) fun r34 => (nn r30 fun a30 => (tg g a30 7 (nn r34 fun a34 => (bd (pX8_copyFrom g h26 a30 a34) fun h36 => (lt (l2 + 1) fun x38 => (k2 x38 h36)))))))))))))))))))))))))
set_option maxRecDepth 10000 in
set_option maxHeartbeats 4000000 in
theorem pX3_copyFrom_b2_ok {X : Cx} {G : Gx} {dk : Nat} {g : MT} {h0 : CT} {this : Nat} {p1 : Nat} {k2 : Int32 → CT → Option CT} (Z : Zx X G cX3_copyFrom RX3 3 dk none none g h0) (hK : 2 ≤ dk) (t0 : gT g this = 3) (hk2 : ∀ (l2 : Int32) (h : CT), k2 l2 h = some h0 → J X g h 2 [(0, va_rf (some this)), (1, va_rf (some p1)), (2, .int l2)] []) (l2 : Int32) (h : CT) (hf : pX3_copyFrom_b2 g this p1 k2 l2 h = some h0) : J X g h 2 [(0, va_rf (some this)), (1, va_rf (some p1)), (2, .int l2)] [] := by
  unfold pX3_copyFrom_b2 at hf
  refine J_iload_n Z.1 2 dX3_copyFrom_2 rfl rfl ?_
  refine J_bipush Z.1 (v := 6) (by decide) dX3_copyFrom_3 ?_
  refine J_icmp_ge Z.1 41 dX3_copyFrom_5 (by decide) (fun c1 => ?_) (fun c1 => ?_)
  · rw [if_pos c1] at hf
    refine J_aload_n Z.1 0 dX3_copyFrom_41 rfl rfl ?_
    refine J_get (v := va_rf (hR h this 2)) Z.1 dX3_copyFrom_42 fl_X3_24 t0 rfl ?_
    refine J_tr (fun r2 er2 => ?_)
    replace hf := lt_i hf r2 er2
    refine J_aload_n Z.1 1 dX3_copyFrom_45 rfl rfl ?_
    replace hf := tg_i hf
    obtain ⟨t3, hf⟩ := hf
    refine J_get (v := va_rf (hR h p1 2)) Z.1 dX3_copyFrom_46 fl_X3_24 t3 rfl ?_
    refine J_tr (fun r4 er4 => ?_)
    replace hf := lt_i hf r4 er4
    replace hf := nn_i hf
    obtain ⟨a2, rfl, hf⟩ := hf
    replace hf := tg_i hf
    obtain ⟨t5, hf⟩ := hf
    replace hf := nn_i hf
    obtain ⟨a4, rfl, hf⟩ := hf
    replace hf := bd_i hf
    obtain ⟨h6, q7, hf⟩ := hf
    refine J_callV (ci := 6) (as := [va_rf (some a4)]) (rest := []) (sy := []) Z.1 dX3_copyFrom_49 cw_X3_48 (pX8_copyFrom_ok G (dk - 1) (by omega) q7) rfl rfl t5 (zG Z) rfl (by decide) (zF Z (by omega)) (zO Z (by omega) (by decide)) (zM _) Z.2.1 Z.2.1 rfl rfl ?_
    refine J_aload_n Z.1 0 dX3_copyFrom_52 rfl rfl ?_
    refine J_get (v := va_rf (hR h6 this 3)) Z.1 dX3_copyFrom_53 fl_X3_28 t0 rfl ?_
    refine J_tr (fun r8 er8 => ?_)
    replace hf := lt_i hf r8 er8
    refine J_aload_n Z.1 1 dX3_copyFrom_56 rfl rfl ?_
    refine J_get (v := va_rf (hR h6 p1 3)) Z.1 dX3_copyFrom_57 fl_X3_28 t3 rfl ?_
    refine J_tr (fun r9 er9 => ?_)
    replace hf := lt_i hf r9 er9
    replace hf := nn_i hf
    obtain ⟨a8, rfl, hf⟩ := hf
    replace hf := tg_i hf
    obtain ⟨t10, hf⟩ := hf
    replace hf := nn_i hf
    obtain ⟨a9, rfl, hf⟩ := hf
    replace hf := bd_i hf
    obtain ⟨h11, q12, hf⟩ := hf
    refine J_callV (ci := 6) (as := [va_rf (some a9)]) (rest := []) (sy := []) Z.1 dX3_copyFrom_60 cw_X3_48 (pX8_copyFrom_ok G (dk - 1) (by omega) q12) rfl rfl t10 (zG Z) rfl (by decide) (zF Z (by omega)) (zO Z (by omega) (by decide)) (zM _) Z.2.1 Z.2.1 rfl rfl ?_
    refine J_aload_n Z.1 0 dX3_copyFrom_63 rfl rfl ?_
    refine J_aload_n Z.1 1 dX3_copyFrom_64 rfl rfl ?_
    refine J_get (v := .int (hI h11 p1 4)) Z.1 dX3_copyFrom_65 fl_X3_52 t3 rfl ?_
    refine J_putI Z.1 dX3_copyFrom_68 fl_X3_52 (fun q => by cases q) t0 rfl rfl (congrArg Value.int (hI_s _ _ _ _)) ?_
    refine J_th (fun h13 eh13 => ?_)
    replace hf := lt_i hf h13 eh13
    refine J_aload_n Z.1 0 dX3_copyFrom_71 rfl rfl ?_
    refine J_aload_n Z.1 1 dX3_copyFrom_72 rfl rfl ?_
    refine J_get (v := .int (hI h13 p1 5)) Z.1 dX3_copyFrom_73 fl_X3_31 t3 rfl ?_
    refine J_putI Z.1 dX3_copyFrom_76 fl_X3_31 (fun q => by cases q) t0 rfl rfl (congrArg Value.int (hI_s _ _ _ _)) ?_
    refine J_th (fun h14 eh14 => ?_)
    replace hf := lt_i hf h14 eh14
    refine J_aload_n Z.1 0 dX3_copyFrom_79 rfl rfl ?_
    refine J_aload_n Z.1 1 dX3_copyFrom_80 rfl rfl ?_
    refine J_get (v := .int (hI h14 p1 6)) Z.1 dX3_copyFrom_81 fl_X3_35 t3 rfl ?_
    refine J_putI Z.1 dX3_copyFrom_84 fl_X3_35 (fun q => by cases q) t0 rfl rfl (congrArg Value.int (hI_s _ _ _ _)) ?_
    refine J_th (fun h15 eh15 => ?_)
    replace hf := lt_i hf h15 eh15
    refine J_aload_n Z.1 0 dX3_copyFrom_87 rfl rfl ?_
    refine J_aload_n Z.1 1 dX3_copyFrom_88 rfl rfl ?_
    refine J_get (v := .int (hI h15 p1 7)) Z.1 dX3_copyFrom_89 fl_X3_38 t3 rfl ?_
    refine J_putI Z.1 dX3_copyFrom_92 fl_X3_38 (fun q => by cases q) t0 rfl rfl (congrArg Value.int (hI_s _ _ _ _)) ?_
    refine J_th (fun h16 eh16 => ?_)
    replace hf := lt_i hf h16 eh16
    refine J_aload_n Z.1 0 dX3_copyFrom_95 rfl rfl ?_
    refine J_aload_n Z.1 1 dX3_copyFrom_96 rfl rfl ?_
    refine J_get (v := va_rf (hR h16 p1 8)) Z.1 dX3_copyFrom_97 fl_X3_44 t3 rfl ?_
    refine J_tr (fun r17 er17 => ?_)
    replace hf := lt_i hf r17 er17
    refine J_putR Z.1 dX3_copyFrom_100 fl_X3_44 (fun q => by cases q) t0 (Or.inl ⟨_, rfl⟩) ?_
    refine J_th (fun h18 eh18 => ?_)
    replace hf := lt_i hf h18 eh18
    cases hf
    exact J_vret Z.1 Z.2.2.2.2.2 dX3_copyFrom_103
  · rw [if_neg c1] at hf
    refine J_aload_n Z.1 0 dX3_copyFrom_8 rfl rfl ?_
    refine J_get (v := va_rf (hR h this 1)) Z.1 dX3_copyFrom_9 fl_X3_20 t0 rfl ?_
    refine J_tr (fun r19 er19 => ?_)
    replace hf := lt_i hf r19 er19
    refine J_iload_n Z.1 2 dX3_copyFrom_12 rfl rfl ?_
    refine J_aload_n Z.1 1 dX3_copyFrom_13 rfl rfl ?_
    replace hf := tg_i hf
    obtain ⟨t20, hf⟩ := hf
    refine J_get (v := va_rf (hR h p1 1)) Z.1 dX3_copyFrom_14 fl_X3_20 t20 rfl ?_
    refine J_tr (fun r21 er21 => ?_)
    replace hf := lt_i hf r21 er21
    refine J_iload_n Z.1 2 dX3_copyFrom_17 rfl rfl ?_
    replace hf := nn_i hf
    obtain ⟨a21, rfl, hf⟩ := hf
    replace hf := tg_i hf
    obtain ⟨t22, hf⟩ := hf
    replace hf := ix_i hf
    obtain ⟨i23, hf⟩ := hf
    refine J_zaload Z.1 dX3_copyFrom_18 t22 i23 ?_
    replace hf := nn_i hf
    obtain ⟨a19, rfl, hf⟩ := hf
    replace hf := tg_i hf
    obtain ⟨t24, hf⟩ := hf
    replace hf := ix_i hf
    obtain ⟨i25, hf⟩ := hf
    refine J_zastore Z.1 dX3_copyFrom_19 t24 i25 ?_
    refine J_th (fun h26 eh26 => ?_)
    replace hf := lt_i hf h26 eh26
    refine J_aload_n Z.1 0 dX3_copyFrom_20 rfl rfl ?_
    refine J_get (v := va_rf (hR h26 this 0)) Z.1 dX3_copyFrom_21 fl_X3_11 t0 rfl ?_
    refine J_tr (fun r27 er27 => ?_)
    replace hf := lt_i hf r27 er27
    refine J_iload_n Z.1 2 dX3_copyFrom_24 rfl rfl ?_
    replace hf := nn_i hf
    obtain ⟨a27, rfl, hf⟩ := hf
    replace hf := tg_i hf
    obtain ⟨t28, hf⟩ := hf
    replace hf := ix_i hf
    obtain ⟨i29, hf⟩ := hf
    refine J_aaload (t := 7) Z.1 dX3_copyFrom_25 t28 rfl i29 ?_
    refine J_tr (fun r30 er30 => ?_)
    replace hf := lt_i hf r30 er30
    refine J_aload_n Z.1 1 dX3_copyFrom_26 rfl rfl ?_
    refine J_get (v := va_rf (hR h26 p1 0)) Z.1 dX3_copyFrom_27 fl_X3_11 t20 rfl ?_
    refine J_tr (fun r31 er31 => ?_)
    replace hf := lt_i hf r31 er31
    refine J_iload_n Z.1 2 dX3_copyFrom_30 rfl rfl ?_
    replace hf := nn_i hf
    obtain ⟨a31, rfl, hf⟩ := hf
    replace hf := tg_i hf
    obtain ⟨t32, hf⟩ := hf
    replace hf := ix_i hf
    obtain ⟨i33, hf⟩ := hf
    refine J_aaload (t := 7) Z.1 dX3_copyFrom_31 t32 rfl i33 ?_
    refine J_tr (fun r34 er34 => ?_)
    replace hf := lt_i hf r34 er34
    replace hf := nn_i hf
    obtain ⟨a30, rfl, hf⟩ := hf
    replace hf := tg_i hf
    obtain ⟨t35, hf⟩ := hf
    replace hf := nn_i hf
    obtain ⟨a34, rfl, hf⟩ := hf
    replace hf := bd_i hf
    obtain ⟨h36, q37, hf⟩ := hf
    refine J_callV (ci := 6) (as := [va_rf (some a34)]) (rest := []) (sy := []) Z.1 dX3_copyFrom_32 cw_X3_48 (pX8_copyFrom_ok G (dk - 1) (by omega) q37) rfl rfl t35 (zG Z) rfl (by decide) (zF Z (by omega)) (zO Z (by omega) (by decide)) (zM _) Z.2.1 Z.2.1 rfl rfl ?_
    refine J_iinc Z.1 (v := 1) (lv2 := [(2, .int (l2 + 1)), (0, va_rf (some this)), (1, va_rf (some p1))]) 2 dX3_copyFrom_35 rfl (by decide) (zL Z (by decide)) rfl ?_
    obtain ⟨x38, ex38⟩ : ∃ z, z = (l2 + 1) := ⟨_, rfl⟩
    replace hf := lt_i hf x38 ex38
    rw [← ex38]
    refine J_goto Z.1 2 dX3_copyFrom_38 (by decide) ?_
    refine J_lv [1, 2, 0] rfl ?_
    exact hk2 _ _ hf
def pX3_copyFrom_l2 (g : MT) (this : Nat) (p1 : Nat) : Nat → Int32 → CT → Option CT
  | 0, _, _ => none
  | n + 1, l2, h => pX3_copyFrom_b2 g this p1 (pX3_copyFrom_l2 g this p1 n) l2 h
theorem pX3_copyFrom_l2_ok {X : Cx} {G : Gx} {dk : Nat} {g : MT} {h0 : CT} {this : Nat} {p1 : Nat} (Z : Zx X G cX3_copyFrom RX3 3 dk none none g h0) (hK : 2 ≤ dk) (t0 : gT g this = 3) : ∀ (n : Nat) (l2 : Int32) (h : CT), pX3_copyFrom_l2 g this p1 n l2 h = some h0 → J X g h 2 [(0, va_rf (some this)), (1, va_rf (some p1)), (2, .int l2)] [] := by
  intro n
  induction n with
  | zero => intro l2 h hf; cases hf
  | succ n ih => intro l2 h hf; exact pX3_copyFrom_b2_ok Z hK t0 ih l2 h hf
def pX3_copyFrom (g : MT) (h : CT) (this : Nat) (p1 : Nat) : Option CT := tg g this 3 (pX3_copyFrom_l2 g this p1  FUEL 0 h)
set_option maxRecDepth 10000 in
set_option maxHeartbeats 4000000 in
theorem pX3_copyFrom_ok (G : Gx) (dk : Nat) (hK : 2 ≤ dk) {g : MT} {h h0 : CT} {this : Nat} {p1 : Nat} (hf : pX3_copyFrom g h this p1 = some h0) : Ctr G dk yX3_copyFrom cX3_copyFrom 3 none [va_rf (some this), va_rf (some p1)] g h none g h0 := by
  refine Ctr.ofZ (lv := [(0, va_rf (some this)), (1, va_rf (some p1))]) (by decide +kernel) (by simp [cat_i, cat_l, cat_d, cat_rf]) rfl fun X Z => ?_
  unfold pX3_copyFrom at hf
  replace hf := tg_i hf
  obtain ⟨t0, hf⟩ := hf
  refine J_iconst Z.1 (v := 0) (by decide) dX3_copyFrom_0 ?_
  refine J_istore_n Z.1 (lv2 := [(2, .int 0), (0, va_rf (some this)), (1, va_rf (some p1))]) dX3_copyFrom_1 rfl (zL Z (by decide)) rfl ?_
  refine J_lv [1, 2, 0] rfl ?_
  exact pX3_copyFrom_l2_ok Z hK t0  FUEL _ _ hf
theorem dX3_rowsThere_0 : decode cX3_rowsThere 0 = .ok (.iconst 0, 1) := by decide +kernel
theorem dX3_rowsThere_1 : decode cX3_rowsThere 1 = .ok (.istore_n 1, 1) := by decide +kernel
theorem dX3_rowsThere_2 : decode cX3_rowsThere 2 = .ok (.iconst 0, 1) := by decide +kernel
theorem dX3_rowsThere_3 : decode cX3_rowsThere 3 = .ok (.istore_n 2, 1) := by decide +kernel
theorem dX3_rowsThere_4 : decode cX3_rowsThere 4 = .ok (.iload_n 2, 1) := by decide +kernel
theorem dX3_rowsThere_5 : decode cX3_rowsThere 5 = .ok (.bipush 6, 2) := by decide +kernel
theorem dX3_rowsThere_7 : decode cX3_rowsThere 7 = .ok (.if_icmp .ge 28, 3) := by decide +kernel
theorem dX3_rowsThere_10 : decode cX3_rowsThere 10 = .ok (.iload_n 1, 1) := by decide +kernel
theorem dX3_rowsThere_11 : decode cX3_rowsThere 11 = .ok (.aload_n 0, 1) := by decide +kernel
theorem dX3_rowsThere_12 : decode cX3_rowsThere 12 = .ok (.getfield 20, 3) := by decide +kernel
theorem dX3_rowsThere_15 : decode cX3_rowsThere 15 = .ok (.iload_n 2, 1) := by decide +kernel
theorem dX3_rowsThere_16 : decode cX3_rowsThere 16 = .ok (.baload, 1) := by decide +kernel
theorem dX3_rowsThere_17 : decode cX3_rowsThere 17 = .ok (.ifCond .eq 9, 3) := by decide +kernel
theorem dX3_rowsThere_20 : decode cX3_rowsThere 20 = .ok (.iconst 1, 1) := by decide +kernel
theorem dX3_rowsThere_21 : decode cX3_rowsThere 21 = .ok (.iload_n 2, 1) := by decide +kernel
theorem dX3_rowsThere_22 : decode cX3_rowsThere 22 = .ok (.ishl, 1) := by decide +kernel
theorem dX3_rowsThere_23 : decode cX3_rowsThere 23 = .ok (.goto 4, 3) := by decide +kernel
theorem dX3_rowsThere_26 : decode cX3_rowsThere 26 = .ok (.iconst 0, 1) := by decide +kernel
theorem dX3_rowsThere_27 : decode cX3_rowsThere 27 = .ok (.ior, 1) := by decide +kernel
theorem dX3_rowsThere_28 : decode cX3_rowsThere 28 = .ok (.istore_n 1, 1) := by decide +kernel
theorem dX3_rowsThere_29 : decode cX3_rowsThere 29 = .ok (.iinc 2 1, 3) := by decide +kernel
theorem dX3_rowsThere_32 : decode cX3_rowsThere 32 = .ok (.goto (-28), 3) := by decide +kernel
theorem dX3_rowsThere_35 : decode cX3_rowsThere 35 = .ok (.iload_n 1, 1) := by decide +kernel
theorem dX3_rowsThere_36 : decode cX3_rowsThere 36 = .ok (.ireturn, 1) := by decide +kernel
def pX3_rowsThere_b27 (g : MT) (h : CT) (this : Nat) (k4 : Int32 → Int32 → Option Int32) (l2 : Int32) (s0 : Int32) (s1 : Int32) : Option Int32 := lt (s0 ||| s1) fun x1 => (lt (l2 + 1) fun x2 => (k4 x1 x2))
set_option maxRecDepth 10000 in
set_option maxHeartbeats 4000000 in
theorem pX3_rowsThere_b27_ok {X : Cx} {G : Gx} {dk : Nat} {g : MT} {r0 : Int32} {h : CT} {this : Nat} {k4 : Int32 → Int32 → Option Int32} (Z : Zx X G cX3_rowsThere RX3 3 dk (some .int) (some (.int r0)) g h) (hK : 0 ≤ dk) (t0 : gT g this = 3) (hk4 : ∀ (l1 : Int32) (l2 : Int32), k4 l1 l2 = some r0 → J X g h 4 [(0, va_rf (some this)), (1, .int l1), (2, .int l2)] []) (l2 : Int32) (s0 : Int32) (s1 : Int32) (hf : pX3_rowsThere_b27 g h this k4 l2 s0 s1 = some r0) : J X g h 27 [(0, va_rf (some this)), (2, .int l2)] [.int s1, .int s0] := by
  unfold pX3_rowsThere_b27 at hf
  refine J_ior Z.1 dX3_rowsThere_27 ?_
  refine J_ti (fun x1 ex1 => ?_)
  replace hf := lt_i hf x1 ex1
  refine J_istore_n Z.1 (lv2 := [(1, .int x1), (0, va_rf (some this)), (2, .int l2)]) dX3_rowsThere_28 rfl (zL Z (by decide)) rfl ?_
  refine J_iinc Z.1 (v := 1) (lv2 := [(2, .int (l2 + 1)), (1, .int x1), (0, va_rf (some this))]) 2 dX3_rowsThere_29 rfl (by decide) (zL Z (by decide)) rfl ?_
  obtain ⟨x2, ex2⟩ : ∃ z, z = (l2 + 1) := ⟨_, rfl⟩
  replace hf := lt_i hf x2 ex2
  rw [← ex2]
  refine J_goto Z.1 4 dX3_rowsThere_32 (by decide) ?_
  refine J_lv [2, 1, 0] rfl ?_
  exact hk4 _ _ hf
def pX3_rowsThere_b4 (g : MT) (h : CT) (this : Nat) (k4 : Int32 → Int32 → Option Int32) (l1 : Int32) (l2 : Int32) : Option Int32 := if 6 ≤ l2 then some l1 else lt (hR h this 1) fun r2 => (nn r2 fun a2 => (tg g a2 24 (ix (gL g a2) l2 (if (hI h a2 (Int32.toNatClampNeg l2)) = 0 then pX3_rowsThere_b27 g h this k4 l2 l1 0 else pX3_rowsThere_b27 g h this k4 l2 l1 ((1 : Int32) <<< (l2 &&& 31))))))
set_option maxRecDepth 10000 in
set_option maxHeartbeats 4000000 in
theorem pX3_rowsThere_b4_ok {X : Cx} {G : Gx} {dk : Nat} {g : MT} {r0 : Int32} {h : CT} {this : Nat} {k4 : Int32 → Int32 → Option Int32} (Z : Zx X G cX3_rowsThere RX3 3 dk (some .int) (some (.int r0)) g h) (hK : 0 ≤ dk) (t0 : gT g this = 3) (hk4 : ∀ (l1 : Int32) (l2 : Int32), k4 l1 l2 = some r0 → J X g h 4 [(0, va_rf (some this)), (1, .int l1), (2, .int l2)] []) (l1 : Int32) (l2 : Int32) (hf : pX3_rowsThere_b4 g h this k4 l1 l2 = some r0) : J X g h 4 [(0, va_rf (some this)), (1, .int l1), (2, .int l2)] [] := by
  unfold pX3_rowsThere_b4 at hf
  refine J_iload_n Z.1 2 dX3_rowsThere_4 rfl rfl ?_
  refine J_bipush Z.1 (v := 6) (by decide) dX3_rowsThere_5 ?_
  refine J_icmp_ge Z.1 35 dX3_rowsThere_7 (by decide) (fun c1 => ?_) (fun c1 => ?_)
  · rw [if_pos c1] at hf
    refine J_iload_n Z.1 1 dX3_rowsThere_35 rfl rfl ?_
    cases hf
    exact J_iret Z.1 Z.2.2.2.2.2 dX3_rowsThere_36
  · rw [if_neg c1] at hf
    refine J_iload_n Z.1 1 dX3_rowsThere_10 rfl rfl ?_
    refine J_aload_n Z.1 0 dX3_rowsThere_11 rfl rfl ?_
    refine J_get (v := va_rf (hR h this 1)) Z.1 dX3_rowsThere_12 fl_X3_20 t0 rfl ?_
    refine J_tr (fun r2 er2 => ?_)
    replace hf := lt_i hf r2 er2
    refine J_iload_n Z.1 2 dX3_rowsThere_15 rfl rfl ?_
    replace hf := nn_i hf
    obtain ⟨a2, rfl, hf⟩ := hf
    replace hf := tg_i hf
    obtain ⟨t3, hf⟩ := hf
    replace hf := ix_i hf
    obtain ⟨i4, hf⟩ := hf
    refine J_zaload Z.1 dX3_rowsThere_16 t3 i4 ?_
    refine J_if_eq Z.1 26 dX3_rowsThere_17 (by decide) (fun c5 => ?_) (fun c5 => ?_)
    · rw [if_pos c5] at hf
      refine J_iconst Z.1 (v := 0) (by decide) dX3_rowsThere_26 ?_
      refine J_lv [0, 2] rfl ?_
      exact pX3_rowsThere_b27_ok Z hK t0 hk4 _ _ _ hf
    · rw [if_neg c5] at hf
      refine J_iconst Z.1 (v := 1) (by decide) dX3_rowsThere_20 ?_
      refine J_iload_n Z.1 2 dX3_rowsThere_21 rfl rfl ?_
      refine J_ishl Z.1 dX3_rowsThere_22 ?_
      refine J_goto Z.1 27 dX3_rowsThere_23 (by decide) ?_
      refine J_lv [0, 2] rfl ?_
      exact pX3_rowsThere_b27_ok Z hK t0 hk4 _ _ _ hf
def pX3_rowsThere_l4 (g : MT) (h : CT) (this : Nat) : Nat → Int32 → Int32 → Option Int32
  | 0, _, _ => none
  | n + 1, l1, l2 => pX3_rowsThere_b4 g h this (pX3_rowsThere_l4 g h this n) l1 l2
theorem pX3_rowsThere_l4_ok {X : Cx} {G : Gx} {dk : Nat} {g : MT} {r0 : Int32} {h : CT} {this : Nat} (Z : Zx X G cX3_rowsThere RX3 3 dk (some .int) (some (.int r0)) g h) (hK : 0 ≤ dk) (t0 : gT g this = 3) : ∀ (n : Nat) (l1 : Int32) (l2 : Int32), pX3_rowsThere_l4 g h this n l1 l2 = some r0 → J X g h 4 [(0, va_rf (some this)), (1, .int l1), (2, .int l2)] [] := by
  intro n
  induction n with
  | zero => intro l1 l2 hf; cases hf
  | succ n ih => intro l1 l2 hf; exact pX3_rowsThere_b4_ok Z hK t0 ih l1 l2 hf
def pX3_rowsThere (g : MT) (h : CT) (this : Nat) : Option Int32 := tg g this 3 (pX3_rowsThere_l4 g h this  FUEL 0 0)
set_option maxRecDepth 10000 in
set_option maxHeartbeats 4000000 in
theorem pX3_rowsThere_ok (G : Gx) (dk : Nat) (hK : 0 ≤ dk) {g : MT} {h : CT} {this : Nat} {r0 : Int32} (hf : pX3_rowsThere g h this = some r0) : Ctr G dk yX3_rowsThere cX3_rowsThere 3 (some .int) [va_rf (some this)] g h (some (.int r0)) g h := by
  refine Ctr.ofZ (lv := [(0, va_rf (some this))]) (by decide +kernel) (by simp [cat_i, cat_l, cat_d, cat_rf]) rfl fun X Z => ?_
  unfold pX3_rowsThere at hf
  replace hf := tg_i hf
  obtain ⟨t0, hf⟩ := hf
  refine J_iconst Z.1 (v := 0) (by decide) dX3_rowsThere_0 ?_
  refine J_istore_n Z.1 (lv2 := [(1, .int 0), (0, va_rf (some this))]) dX3_rowsThere_1 rfl (zL Z (by decide)) rfl ?_
  refine J_iconst Z.1 (v := 0) (by decide) dX3_rowsThere_2 ?_
  refine J_istore_n Z.1 (lv2 := [(2, .int 0), (1, .int 0), (0, va_rf (some this))]) dX3_rowsThere_3 rfl (zL Z (by decide)) rfl ?_
  refine J_lv [2, 1, 0] rfl ?_
  exact pX3_rowsThere_l4_ok Z hK t0  FUEL _ _ hf
theorem dX3_land_0 : decode cX3_land 0 = .ok (.iload_n 1, 1) := by decide +kernel
theorem dX3_land_1 : decode cX3_land 1 = .ok (.ifCond .lt 9, 3) := by decide +kernel
theorem dX3_land_4 : decode cX3_land 4 = .ok (.iload_n 1, 1) := by decide +kernel
theorem dX3_land_5 : decode cX3_land 5 = .ok (.bipush 6, 2) := by decide +kernel
theorem dX3_land_7 : decode cX3_land 7 = .ok (.if_icmp .lt 4, 3) := by decide +kernel
theorem dX3_land_10 : decode cX3_land 10 = .ok (.return_, 1) := by decide +kernel
theorem dX3_land_11 : decode cX3_land 11 = .ok (.aload_n 0, 1) := by decide +kernel
theorem dX3_land_12 : decode cX3_land 12 = .ok (.getfield 20, 3) := by decide +kernel
theorem dX3_land_15 : decode cX3_land 15 = .ok (.iload_n 1, 1) := by decide +kernel
theorem dX3_land_16 : decode cX3_land 16 = .ok (.baload, 1) := by decide +kernel
theorem dX3_land_17 : decode cX3_land 17 = .ok (.ifCond .ne 19, 3) := by decide +kernel
theorem dX3_land_20 : decode cX3_land 20 = .ok (.aload_n 0, 1) := by decide +kernel
theorem dX3_land_21 : decode cX3_land 21 = .ok (.getfield 11, 3) := by decide +kernel
theorem dX3_land_24 : decode cX3_land 24 = .ok (.iload_n 1, 1) := by decide +kernel
theorem dX3_land_25 : decode cX3_land 25 = .ok (.aaload, 1) := by decide +kernel
theorem dX3_land_26 : decode cX3_land 26 = .ok (.invokevirtual 55, 3) := by decide +kernel
theorem dX3_land_29 : decode cX3_land 29 = .ok (.aload_n 0, 1) := by decide +kernel
theorem dX3_land_30 : decode cX3_land 30 = .ok (.getfield 20, 3) := by decide +kernel
theorem dX3_land_33 : decode cX3_land 33 = .ok (.iload_n 1, 1) := by decide +kernel
theorem dX3_land_34 : decode cX3_land 34 = .ok (.iconst 1, 1) := by decide +kernel
theorem dX3_land_35 : decode cX3_land 35 = .ok (.bastore, 1) := by decide +kernel
theorem dX3_land_36 : decode cX3_land 36 = .ok (.aload_n 0, 1) := by decide +kernel
theorem dX3_land_37 : decode cX3_land 37 = .ok (.getfield 11, 3) := by decide +kernel
theorem dX3_land_40 : decode cX3_land 40 = .ok (.iload_n 1, 1) := by decide +kernel
theorem dX3_land_41 : decode cX3_land 41 = .ok (.aaload, 1) := by decide +kernel
theorem dX3_land_42 : decode cX3_land 42 = .ok (.iload_n 2, 1) := by decide +kernel
theorem dX3_land_43 : decode cX3_land 43 = .ok (.aload_n 3, 1) := by decide +kernel
theorem dX3_land_44 : decode cX3_land 44 = .ok (.invokevirtual 58, 3) := by decide +kernel
theorem dX3_land_47 : decode cX3_land 47 = .ok (.return_, 1) := by decide +kernel
def pX3_land_b36 (g : MT) (this : Nat) (p1 : Int32) (p2 : Int32) (p3 : Nat) (h : CT) : Option CT := lt (hR h this 0) fun r1 => (nn r1 fun a1 => (tg g a1 27 (ix (gL g a1) p1 (lt (hR h a1 (Int32.toNatClampNeg p1)) fun r4 => (nn r4 fun a4 => (tg g a4 7 (bd (pX8_keep g h a4 p2 p3) fun h6 => (some h6))))))))
set_option maxRecDepth 10000 in
set_option maxHeartbeats 4000000 in
theorem pX3_land_b36_ok {X : Cx} {G : Gx} {dk : Nat} {g : MT} {h0 : CT} {this : Nat} {p1 : Int32} {p2 : Int32} {p3 : Nat} (Z : Zx X G cX3_land RX3 4 dk none none g h0) (hK : 1 ≤ dk) (t0 : gT g this = 3) (h : CT) (hf : pX3_land_b36 g this p1 p2 p3 h = some h0) : J X g h 36 [(0, va_rf (some this)), (1, .int p1), (2, .int p2), (3, va_rf (some p3))] [] := by
  unfold pX3_land_b36 at hf
  refine J_aload_n Z.1 0 dX3_land_36 rfl rfl ?_
  refine J_get (v := va_rf (hR h this 0)) Z.1 dX3_land_37 fl_X3_11 t0 rfl ?_
  refine J_tr (fun r1 er1 => ?_)
  replace hf := lt_i hf r1 er1
  refine J_iload_n Z.1 1 dX3_land_40 rfl rfl ?_
  replace hf := nn_i hf
  obtain ⟨a1, rfl, hf⟩ := hf
  replace hf := tg_i hf
  obtain ⟨t2, hf⟩ := hf
  replace hf := ix_i hf
  obtain ⟨i3, hf⟩ := hf
  refine J_aaload (t := 7) Z.1 dX3_land_41 t2 rfl i3 ?_
  refine J_tr (fun r4 er4 => ?_)
  replace hf := lt_i hf r4 er4
  refine J_iload_n Z.1 2 dX3_land_42 rfl rfl ?_
  refine J_aload_n Z.1 3 dX3_land_43 rfl rfl ?_
  replace hf := nn_i hf
  obtain ⟨a4, rfl, hf⟩ := hf
  replace hf := tg_i hf
  obtain ⟨t5, hf⟩ := hf
  replace hf := bd_i hf
  obtain ⟨h6, q7, hf⟩ := hf
  refine J_callV (ci := 6) (as := [.int p2, va_rf (some p3)]) (rest := []) (sy := []) Z.1 dX3_land_44 cw_X3_58 (pX8_keep_ok G (dk - 1) (by omega) q7) rfl rfl t5 (zG Z) rfl (by decide) (zF Z (by omega)) (zO Z (by omega) (by decide)) (zM _) Z.2.1 Z.2.1 rfl rfl ?_
  cases hf
  exact J_vret Z.1 Z.2.2.2.2.2 dX3_land_47
def pX3_land (g : MT) (h : CT) (this : Nat) (p1 : Int32) (p2 : Int32) (p3 : Nat) : Option CT := tg g this 3 (if p1 < 0 then some h else if p1 < 6 then lt (hR h this 1) fun r3 => (nn r3 fun a3 => (tg g a3 24 (ix (gL g a3) p1 (if (hI h a3 (Int32.toNatClampNeg p1)) = 0 then lt (hR h this 0) fun r7 => (nn r7 fun a7 => (tg g a7 27 (ix (gL g a7) p1 (lt (hR h a7 (Int32.toNatClampNeg p1)) fun r10 => (nn r10 fun a10 => (tg g a10 7 (bd (pX8_clear g h a10) fun h12 => (lt (hR h12 this 1) fun r14 => (nn r14 fun a14 => (tg g a14 24 (ix (gL g a14) p1 (lt (sI h12 a14 (Int32.toNatClampNeg p1) (vp_nar .boolean 1)) fun h17 => (pX3_land_b36 g this p1 p2 p3  h17))))))))))))) else pX3_land_b36 g this p1 p2 p3  h)))) else some h)
set_option maxRecDepth 10000 in
set_option maxHeartbeats 4000000 in
theorem pX3_land_ok (G : Gx) (dk : Nat) (hK : 1 ≤ dk) {g : MT} {h h0 : CT} {this : Nat} {p1 : Int32} {p2 : Int32} {p3 : Nat} (hf : pX3_land g h this p1 p2 p3 = some h0) : Ctr G dk yX3_land cX3_land 4 none [va_rf (some this), .int p1, .int p2, va_rf (some p3)] g h none g h0 := by
  refine Ctr.ofZ (lv := [(0, va_rf (some this)), (1, .int p1), (2, .int p2), (3, va_rf (some p3))]) (by decide +kernel) (by simp [cat_i, cat_l, cat_d, cat_rf]) rfl fun X Z => ?_
  unfold pX3_land at hf
  replace hf := tg_i hf
  obtain ⟨t0, hf⟩ := hf
  refine J_iload_n Z.1 1 dX3_land_0 rfl rfl ?_
  refine J_if_lt Z.1 10 dX3_land_1 (by decide) (fun c1 => ?_) (fun c1 => ?_)
  · rw [if_pos c1] at hf
    cases hf
    exact J_vret Z.1 Z.2.2.2.2.2 dX3_land_10
  · rw [if_neg c1] at hf
    refine J_iload_n Z.1 1 dX3_land_4 rfl rfl ?_
    refine J_bipush Z.1 (v := 6) (by decide) dX3_land_5 ?_
    refine J_icmp_lt Z.1 11 dX3_land_7 (by decide) (fun c2 => ?_) (fun c2 => ?_)
    · rw [if_pos c2] at hf
      refine J_aload_n Z.1 0 dX3_land_11 rfl rfl ?_
      refine J_get (v := va_rf (hR h this 1)) Z.1 dX3_land_12 fl_X3_20 t0 rfl ?_
      refine J_tr (fun r3 er3 => ?_)
      replace hf := lt_i hf r3 er3
      refine J_iload_n Z.1 1 dX3_land_15 rfl rfl ?_
      replace hf := nn_i hf
      obtain ⟨a3, rfl, hf⟩ := hf
      replace hf := tg_i hf
      obtain ⟨t4, hf⟩ := hf
      replace hf := ix_i hf
      obtain ⟨i5, hf⟩ := hf
      refine J_zaload Z.1 dX3_land_16 t4 i5 ?_
      refine J_if_ne Z.1 36 dX3_land_17 (by decide) (fun c6 => ?_) (fun c6 => ?_)
      · rw [if_neg c6] at hf
        exact pX3_land_b36_ok Z hK t0  _ hf
      · rw [if_pos c6] at hf
        refine J_aload_n Z.1 0 dX3_land_20 rfl rfl ?_
        refine J_get (v := va_rf (hR h this 0)) Z.1 dX3_land_21 fl_X3_11 t0 rfl ?_
        refine J_tr (fun r7 er7 => ?_)
        replace hf := lt_i hf r7 er7
        refine J_iload_n Z.1 1 dX3_land_24 rfl rfl ?_
        replace hf := nn_i hf
        obtain ⟨a7, rfl, hf⟩ := hf
        replace hf := tg_i hf
        obtain ⟨t8, hf⟩ := hf
        replace hf := ix_i hf
        obtain ⟨i9, hf⟩ := hf
        refine J_aaload (t := 7) Z.1 dX3_land_25 t8 rfl i9 ?_
        refine J_tr (fun r10 er10 => ?_)
        replace hf := lt_i hf r10 er10
        replace hf := nn_i hf
        obtain ⟨a10, rfl, hf⟩ := hf
        replace hf := tg_i hf
        obtain ⟨t11, hf⟩ := hf
        replace hf := bd_i hf
        obtain ⟨h12, q13, hf⟩ := hf
        refine J_callV (ci := 6) (as := []) (rest := []) (sy := []) Z.1 dX3_land_26 cw_X3_55 (pX8_clear_ok G (dk - 1) (by omega) q13) rfl rfl t11 (zG Z) rfl (by decide) (zF Z (by omega)) (zO Z (by omega) (by decide)) (zM _) Z.2.1 Z.2.1 rfl rfl ?_
        refine J_aload_n Z.1 0 dX3_land_29 rfl rfl ?_
        refine J_get (v := va_rf (hR h12 this 1)) Z.1 dX3_land_30 fl_X3_20 t0 rfl ?_
        refine J_tr (fun r14 er14 => ?_)
        replace hf := lt_i hf r14 er14
        refine J_iload_n Z.1 1 dX3_land_33 rfl rfl ?_
        refine J_iconst Z.1 (v := 1) (by decide) dX3_land_34 ?_
        replace hf := nn_i hf
        obtain ⟨a14, rfl, hf⟩ := hf
        replace hf := tg_i hf
        obtain ⟨t15, hf⟩ := hf
        replace hf := ix_i hf
        obtain ⟨i16, hf⟩ := hf
        refine J_zastore Z.1 dX3_land_35 t15 i16 ?_
        refine J_th (fun h17 eh17 => ?_)
        replace hf := lt_i hf h17 eh17
        exact pX3_land_b36_ok Z hK t0  _ hf
    · rw [if_neg c2] at hf
      cases hf
      exact J_vret Z.1 Z.2.2.2.2.2 dX3_land_10
theorem dX3_fetch_0 : decode cX3_fetch 0 = .ok (.iload_n 1, 1) := by decide +kernel
theorem dX3_fetch_1 : decode cX3_fetch 1 = .ok (.ifCond .lt 20, 3) := by decide +kernel
theorem dX3_fetch_4 : decode cX3_fetch 4 = .ok (.iload_n 1, 1) := by decide +kernel
theorem dX3_fetch_5 : decode cX3_fetch 5 = .ok (.bipush 6, 2) := by decide +kernel
theorem dX3_fetch_7 : decode cX3_fetch 7 = .ok (.if_icmp .ge 14, 3) := by decide +kernel
theorem dX3_fetch_10 : decode cX3_fetch 10 = .ok (.aload_n 0, 1) := by decide +kernel
theorem dX3_fetch_11 : decode cX3_fetch 11 = .ok (.getfield 11, 3) := by decide +kernel
theorem dX3_fetch_14 : decode cX3_fetch 14 = .ok (.iload_n 1, 1) := by decide +kernel
theorem dX3_fetch_15 : decode cX3_fetch 15 = .ok (.aaload, 1) := by decide +kernel
theorem dX3_fetch_16 : decode cX3_fetch 16 = .ok (.iload_n 2, 1) := by decide +kernel
theorem dX3_fetch_17 : decode cX3_fetch 17 = .ok (.aload_n 3, 1) := by decide +kernel
theorem dX3_fetch_18 : decode cX3_fetch 18 = .ok (.invokevirtual 62, 3) := by decide +kernel
theorem dX3_fetch_21 : decode cX3_fetch 21 = .ok (.return_, 1) := by decide +kernel
def pX3_fetch (g : MT) (h : CT) (this : Nat) (p1 : Int32) (p2 : Int32) (p3 : Nat) : Option CT := tg g this 3 (if p1 < 0 then some h else if 6 ≤ p1 then some h else lt (hR h this 0) fun r3 => (nn r3 fun a3 => (tg g a3 27 (ix (gL g a3) p1 (lt (hR h a3 (Int32.toNatClampNeg p1)) fun r6 => (nn r6 fun a6 => (tg g a6 7 (bd (pX8_fetch g h a6 p2 p3) fun h8 => (some h8)))))))))
set_option maxRecDepth 10000 in
set_option maxHeartbeats 4000000 in
theorem pX3_fetch_ok (G : Gx) (dk : Nat) (hK : 1 ≤ dk) {g : MT} {h h0 : CT} {this : Nat} {p1 : Int32} {p2 : Int32} {p3 : Nat} (hf : pX3_fetch g h this p1 p2 p3 = some h0) : Ctr G dk yX3_fetch cX3_fetch 4 none [va_rf (some this), .int p1, .int p2, va_rf (some p3)] g h none g h0 := by
  refine Ctr.ofZ (lv := [(0, va_rf (some this)), (1, .int p1), (2, .int p2), (3, va_rf (some p3))]) (by decide +kernel) (by simp [cat_i, cat_l, cat_d, cat_rf]) rfl fun X Z => ?_
  unfold pX3_fetch at hf
  replace hf := tg_i hf
  obtain ⟨t0, hf⟩ := hf
  refine J_iload_n Z.1 1 dX3_fetch_0 rfl rfl ?_
  refine J_if_lt Z.1 21 dX3_fetch_1 (by decide) (fun c1 => ?_) (fun c1 => ?_)
  · rw [if_pos c1] at hf
    cases hf
    exact J_vret Z.1 Z.2.2.2.2.2 dX3_fetch_21
  · rw [if_neg c1] at hf
    refine J_iload_n Z.1 1 dX3_fetch_4 rfl rfl ?_
    refine J_bipush Z.1 (v := 6) (by decide) dX3_fetch_5 ?_
    refine J_icmp_ge Z.1 21 dX3_fetch_7 (by decide) (fun c2 => ?_) (fun c2 => ?_)
    · rw [if_pos c2] at hf
      cases hf
      exact J_vret Z.1 Z.2.2.2.2.2 dX3_fetch_21
    · rw [if_neg c2] at hf
      refine J_aload_n Z.1 0 dX3_fetch_10 rfl rfl ?_
      refine J_get (v := va_rf (hR h this 0)) Z.1 dX3_fetch_11 fl_X3_11 t0 rfl ?_
      refine J_tr (fun r3 er3 => ?_)
      replace hf := lt_i hf r3 er3
      refine J_iload_n Z.1 1 dX3_fetch_14 rfl rfl ?_
      replace hf := nn_i hf
      obtain ⟨a3, rfl, hf⟩ := hf
      replace hf := tg_i hf
      obtain ⟨t4, hf⟩ := hf
      replace hf := ix_i hf
      obtain ⟨i5, hf⟩ := hf
      refine J_aaload (t := 7) Z.1 dX3_fetch_15 t4 rfl i5 ?_
      refine J_tr (fun r6 er6 => ?_)
      replace hf := lt_i hf r6 er6
      refine J_iload_n Z.1 2 dX3_fetch_16 rfl rfl ?_
      refine J_aload_n Z.1 3 dX3_fetch_17 rfl rfl ?_
      replace hf := nn_i hf
      obtain ⟨a6, rfl, hf⟩ := hf
      replace hf := tg_i hf
      obtain ⟨t7, hf⟩ := hf
      replace hf := bd_i hf
      obtain ⟨h8, q9, hf⟩ := hf
      refine J_callV (ci := 6) (as := [.int p2, va_rf (some p3)]) (rest := []) (sy := []) Z.1 dX3_fetch_18 cw_X3_62 (pX8_fetch_ok G (dk - 1) (by omega) q9) rfl rfl t7 (zG Z) rfl (by decide) (zF Z (by omega)) (zO Z (by omega) (by decide)) (zM _) Z.2.1 Z.2.1 rfl rfl ?_
      cases hf
      exact J_vret Z.1 Z.2.2.2.2.2 dX3_fetch_21
