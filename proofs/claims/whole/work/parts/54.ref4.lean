/-! written by wip/whole/gen.py out of the printed bytecode -/
theorem dX13_readReckoned_0 : decode cX13_readReckoned 0 = .ok (.aload_n 0, 1) := by decide +kernel
theorem dX13_readReckoned_1 : decode cX13_readReckoned 1 = .ok (.getfield 31, 3) := by decide +kernel
theorem dX13_readReckoned_4 : decode cX13_readReckoned 4 = .ok (.iload_n 1, 1) := by decide +kernel
theorem dX13_readReckoned_5 : decode cX13_readReckoned 5 = .ok (.iconst 1, 1) := by decide +kernel
theorem dX13_readReckoned_6 : decode cX13_readReckoned 6 = .ok (.iadd, 1) := by decide +kernel
theorem dX13_readReckoned_7 : decode cX13_readReckoned 7 = .ok (.aload_n 0, 1) := by decide +kernel
theorem dX13_readReckoned_8 : decode cX13_readReckoned 8 = .ok (.invokevirtual 232, 3) := by decide +kernel
theorem dX13_readReckoned_11 : decode cX13_readReckoned 11 = .ok (.iastore, 1) := by decide +kernel
theorem dX13_readReckoned_12 : decode cX13_readReckoned 12 = .ok (.aload_n 0, 1) := by decide +kernel
theorem dX13_readReckoned_13 : decode cX13_readReckoned 13 = .ok (.getfield 31, 3) := by decide +kernel
theorem dX13_readReckoned_16 : decode cX13_readReckoned 16 = .ok (.iload_n 1, 1) := by decide +kernel
theorem dX13_readReckoned_17 : decode cX13_readReckoned 17 = .ok (.iconst 2, 1) := by decide +kernel
theorem dX13_readReckoned_18 : decode cX13_readReckoned 18 = .ok (.iadd, 1) := by decide +kernel
theorem dX13_readReckoned_19 : decode cX13_readReckoned 19 = .ok (.aload_n 0, 1) := by decide +kernel
theorem dX13_readReckoned_20 : decode cX13_readReckoned 20 = .ok (.invokevirtual 232, 3) := by decide +kernel
theorem dX13_readReckoned_23 : decode cX13_readReckoned 23 = .ok (.iastore, 1) := by decide +kernel
theorem dX13_readReckoned_24 : decode cX13_readReckoned 24 = .ok (.iload_n 2, 1) := by decide +kernel
theorem dX13_readReckoned_25 : decode cX13_readReckoned 25 = .ok (.bipush 14, 2) := by decide +kernel
theorem dX13_readReckoned_27 : decode cX13_readReckoned 27 = .ok (.if_icmp .ge 15, 3) := by decide +kernel
theorem dX13_readReckoned_30 : decode cX13_readReckoned 30 = .ok (.aload_n 0, 1) := by decide +kernel
theorem dX13_readReckoned_31 : decode cX13_readReckoned 31 = .ok (.getfield 31, 3) := by decide +kernel
theorem dX13_readReckoned_34 : decode cX13_readReckoned 34 = .ok (.iload_n 1, 1) := by decide +kernel
theorem dX13_readReckoned_35 : decode cX13_readReckoned 35 = .ok (.iconst 3, 1) := by decide +kernel
theorem dX13_readReckoned_36 : decode cX13_readReckoned 36 = .ok (.iadd, 1) := by decide +kernel
theorem dX13_readReckoned_37 : decode cX13_readReckoned 37 = .ok (.aload_n 0, 1) := by decide +kernel
theorem dX13_readReckoned_38 : decode cX13_readReckoned 38 = .ok (.invokevirtual 232, 3) := by decide +kernel
theorem dX13_readReckoned_41 : decode cX13_readReckoned 41 = .ok (.iastore, 1) := by decide +kernel
theorem dX13_readReckoned_42 : decode cX13_readReckoned 42 = .ok (.aload_n 0, 1) := by decide +kernel
theorem dX13_readReckoned_43 : decode cX13_readReckoned 43 = .ok (.getfield 195, 3) := by decide +kernel
theorem dX13_readReckoned_46 : decode cX13_readReckoned 46 = .ok (.ifCond .gt 10, 3) := by decide +kernel
theorem dX13_readReckoned_49 : decode cX13_readReckoned 49 = .ok (.aload_n 0, 1) := by decide +kernel
theorem dX13_readReckoned_50 : decode cX13_readReckoned 50 = .ok (.invokevirtual 244, 3) := by decide +kernel
theorem dX13_readReckoned_53 : decode cX13_readReckoned 53 = .ok (.ifCond .ne 4, 3) := by decide +kernel
theorem dX13_readReckoned_56 : decode cX13_readReckoned 56 = .ok (.return_, 1) := by decide +kernel
theorem dX13_readReckoned_57 : decode cX13_readReckoned 57 = .ok (.aload_n 0, 1) := by decide +kernel
theorem dX13_readReckoned_58 : decode cX13_readReckoned 58 = .ok (.getfield 31, 3) := by decide +kernel
theorem dX13_readReckoned_61 : decode cX13_readReckoned 61 = .ok (.iload_n 1, 1) := by decide +kernel
theorem dX13_readReckoned_62 : decode cX13_readReckoned 62 = .ok (.bipush 6, 2) := by decide +kernel
theorem dX13_readReckoned_64 : decode cX13_readReckoned 64 = .ok (.iadd, 1) := by decide +kernel
theorem dX13_readReckoned_65 : decode cX13_readReckoned 65 = .ok (.iconst 1, 1) := by decide +kernel
theorem dX13_readReckoned_66 : decode cX13_readReckoned 66 = .ok (.iastore, 1) := by decide +kernel
theorem dX13_readReckoned_67 : decode cX13_readReckoned 67 = .ok (.aload_n 0, 1) := by decide +kernel
theorem dX13_readReckoned_68 : decode cX13_readReckoned 68 = .ok (.invokevirtual 205, 3) := by decide +kernel
theorem dX13_readReckoned_71 : decode cX13_readReckoned 71 = .ok (.return_, 1) := by decide +kernel
def pX13_readReckoned_b42 (g : MT) (this : Nat) (p1 : Int32) (p2 : Int32) (h : CT) : Option CT := if 0 < (hI h this 12) then some h else bd (pX13_isMasked g h this) fun x2 => (if x2 = 0 then some h else lt (hR h this 19) fun r5 => (nn r5 fun a5 => (tg g a5 20 (ix (gL g a5) (p1 + 6) (lt (sI h a5 (Int32.toNatClampNeg (p1 + 6)) 1) fun h8 => (bd (pX13_advance g h8 this) fun h9 => (some h9)))))))
set_option maxRecDepth 10000 in
set_option maxHeartbeats 4000000 in
theorem pX13_readReckoned_b42_ok {X : Cx} {G : Gx} {dk : Nat} {g : MT} {h0 : CT} {this : Nat} {p1 : Int32} {p2 : Int32} (Z : Zx X G cX13_readReckoned RX13 3 dk none none g h0) (hK : 4 ≤ dk) (t0 : gT g this = 12) (h : CT) (hf : pX13_readReckoned_b42 g this p1 p2 h = some h0) : J X g h 42 [(0, va_rf (some this)), (1, .int p1)] [] := by
  unfold pX13_readReckoned_b42 at hf
  refine J_aload_n Z.1 0 dX13_readReckoned_42 rfl rfl ?_
  refine J_get (v := .int (hI h this 12)) Z.1 dX13_readReckoned_43 fl_X13_195 t0 rfl ?_
  refine J_if_gt Z.1 56 dX13_readReckoned_46 (by decide) (fun c1 => ?_) (fun c1 => ?_)
  · rw [if_pos c1] at hf
    cases hf
    exact J_vret Z.1 Z.2.2.2.2.2 dX13_readReckoned_56
  · rw [if_neg c1] at hf
    refine J_aload_n Z.1 0 dX13_readReckoned_49 rfl rfl ?_
    replace hf := bd_i hf
    obtain ⟨x2, q3, hf⟩ := hf
    refine J_callV (ci := 11) (as := []) (rest := []) (sy := [.int x2]) Z.1 dX13_readReckoned_50 cw_X13_244 (pX13_isMasked_ok G (dk - 1) (by omega) q3) rfl rfl t0 (zG Z) rfl (by decide) (zF Z (by omega)) (zO Z (by omega) (by decide)) (zM _) Z.2.1 Z.2.1 rfl rfl ?_
    refine J_if_ne Z.1 57 dX13_readReckoned_53 (by decide) (fun c4 => ?_) (fun c4 => ?_)
    · rw [if_neg c4] at hf
      refine J_aload_n Z.1 0 dX13_readReckoned_57 rfl rfl ?_
      refine J_get (v := va_rf (hR h this 19)) Z.1 dX13_readReckoned_58 fl_X13_31 t0 rfl ?_
      refine J_tr (fun r5 er5 => ?_)
      replace hf := lt_i hf r5 er5
      refine J_iload_n Z.1 1 dX13_readReckoned_61 rfl rfl ?_
      refine J_bipush Z.1 (v := 6) (by decide) dX13_readReckoned_62 ?_
      refine J_iadd Z.1 dX13_readReckoned_64 ?_
      refine J_iconst Z.1 (v := 1) (by decide) dX13_readReckoned_65 ?_
      replace hf := nn_i hf
      obtain ⟨a5, rfl, hf⟩ := hf
      replace hf := tg_i hf
      obtain ⟨t6, hf⟩ := hf
      replace hf := ix_i hf
      obtain ⟨i7, hf⟩ := hf
      refine J_iastore Z.1 dX13_readReckoned_66 t6 i7 ?_
      refine J_th (fun h8 eh8 => ?_)
      replace hf := lt_i hf h8 eh8
      refine J_aload_n Z.1 0 dX13_readReckoned_67 rfl rfl ?_
      replace hf := bd_i hf
      obtain ⟨h9, q10, hf⟩ := hf
      refine J_callV (ci := 11) (as := []) (rest := []) (sy := []) Z.1 dX13_readReckoned_68 cw_X13_205 (pX13_advance_ok G (dk - 1) (by omega) q10) rfl rfl t0 (zG Z) rfl (by decide) (zF Z (by omega)) (zO Z (by omega) (by decide)) (zM _) Z.2.1 Z.2.1 rfl rfl ?_
      cases hf
      exact J_vret Z.1 Z.2.2.2.2.2 dX13_readReckoned_71
    · rw [if_pos c4] at hf
      cases hf
      exact J_vret Z.1 Z.2.2.2.2.2 dX13_readReckoned_56
def pX13_readReckoned (g : MT) (h : CT) (this : Nat) (p1 : Int32) (p2 : Int32) : Option CT := tg g this 12 (lt (hR h this 19) fun r1 => (bd2 (pX13_readRow g h this) fun x4 h2 => (nn r1 fun a1 => (tg g a1 20 (ix (gL g a1) (p1 + 1) (lt (sI h2 a1 (Int32.toNatClampNeg (p1 + 1)) x4) fun h7 => (lt (hR h7 this 19) fun r8 => (bd2 (pX13_readRow g h7 this) fun x11 h9 => (nn r8 fun a8 => (tg g a8 20 (ix (gL g a8) (p1 + 2) (lt (sI h9 a8 (Int32.toNatClampNeg (p1 + 2)) x11) fun h14 => (if 14 ≤ p2 then pX13_readReckoned_b42 g this p1 p2  h14 else lt (hR h14 this 19) fun r16 => (bd2 (pX13_readRow g h14 this) fun x19 h17 => (nn r16 fun a16 => (tg g a16 20 (ix (gL g a16) (p1 + 3) (lt (sI h17 a16 (Int32.toNatClampNeg (p1 + 3)) x19) fun h22 => (pX13_readReckoned_b42 g this p1 p2  h22)))))))))))))))))))
set_option maxRecDepth 10000 in
set_option maxHeartbeats 4000000 in
theorem pX13_readReckoned_ok (G : Gx) (dk : Nat) (hK : 4 ≤ dk) {g : MT} {h h0 : CT} {this : Nat} {p1 : Int32} {p2 : Int32} (hf : pX13_readReckoned g h this p1 p2 = some h0) : Ctr G dk yX13_readReckoned cX13_readReckoned 3 none [va_rf (some this), .int p1, .int p2] g h none g h0 := by
  refine Ctr.ofZ (lv := [(0, va_rf (some this)), (1, .int p1), (2, .int p2)]) (by decide +kernel) (by simp [cat_i, cat_l, cat_d, cat_rf]) rfl fun X Z => ?_
  unfold pX13_readReckoned at hf
  replace hf := tg_i hf
  obtain ⟨t0, hf⟩ := hf
  refine J_aload_n Z.1 0 dX13_readReckoned_0 rfl rfl ?_
  refine J_get (v := va_rf (hR h this 19)) Z.1 dX13_readReckoned_1 fl_X13_31 t0 rfl ?_
  refine J_tr (fun r1 er1 => ?_)
  replace hf := lt_i hf r1 er1
  refine J_iload_n Z.1 1 dX13_readReckoned_4 rfl rfl ?_
  refine J_iconst Z.1 (v := 1) (by decide) dX13_readReckoned_5 ?_
  refine J_iadd Z.1 dX13_readReckoned_6 ?_
  refine J_aload_n Z.1 0 dX13_readReckoned_7 rfl rfl ?_
  replace hf := bd2_i hf
  obtain ⟨x4, h2, q3, hf⟩ := hf
  refine J_callV (ci := 11) (as := []) (rest := [.int (p1 + 1), va_rf r1]) (sy := [.int x4, .int (p1 + 1), va_rf r1]) Z.1 dX13_readReckoned_8 cw_X13_232 (pX13_readRow_ok G (dk - 1) (by omega) q3) rfl rfl t0 (zG Z) rfl (by simp [cat_i, cat_l, cat_d, cat_rf]) (zF Z (by omega)) (zO Z (by omega) (by decide)) (zM _) Z.2.1 Z.2.1 rfl rfl ?_
  replace hf := nn_i hf
  obtain ⟨a1, rfl, hf⟩ := hf
  replace hf := tg_i hf
  obtain ⟨t5, hf⟩ := hf
  replace hf := ix_i hf
  obtain ⟨i6, hf⟩ := hf
  refine J_iastore Z.1 dX13_readReckoned_11 t5 i6 ?_
  refine J_th (fun h7 eh7 => ?_)
  replace hf := lt_i hf h7 eh7
  refine J_aload_n Z.1 0 dX13_readReckoned_12 rfl rfl ?_
  refine J_get (v := va_rf (hR h7 this 19)) Z.1 dX13_readReckoned_13 fl_X13_31 t0 rfl ?_
  refine J_tr (fun r8 er8 => ?_)
  replace hf := lt_i hf r8 er8
  refine J_iload_n Z.1 1 dX13_readReckoned_16 rfl rfl ?_
  refine J_iconst Z.1 (v := 2) (by decide) dX13_readReckoned_17 ?_
  refine J_iadd Z.1 dX13_readReckoned_18 ?_
  refine J_aload_n Z.1 0 dX13_readReckoned_19 rfl rfl ?_
  replace hf := bd2_i hf
  obtain ⟨x11, h9, q10, hf⟩ := hf
  refine J_callV (ci := 11) (as := []) (rest := [.int (p1 + 2), va_rf r8]) (sy := [.int x11, .int (p1 + 2), va_rf r8]) Z.1 dX13_readReckoned_20 cw_X13_232 (pX13_readRow_ok G (dk - 1) (by omega) q10) rfl rfl t0 (zG Z) rfl (by simp [cat_i, cat_l, cat_d, cat_rf]) (zF Z (by omega)) (zO Z (by omega) (by decide)) (zM _) Z.2.1 Z.2.1 rfl rfl ?_
  replace hf := nn_i hf
  obtain ⟨a8, rfl, hf⟩ := hf
  replace hf := tg_i hf
  obtain ⟨t12, hf⟩ := hf
  replace hf := ix_i hf
  obtain ⟨i13, hf⟩ := hf
  refine J_iastore Z.1 dX13_readReckoned_23 t12 i13 ?_
  refine J_th (fun h14 eh14 => ?_)
  replace hf := lt_i hf h14 eh14
  refine J_iload_n Z.1 2 dX13_readReckoned_24 rfl rfl ?_
  refine J_bipush Z.1 (v := 14) (by decide) dX13_readReckoned_25 ?_
  refine J_icmp_ge Z.1 42 dX13_readReckoned_27 (by decide) (fun c15 => ?_) (fun c15 => ?_)
  · rw [if_pos c15] at hf
    refine J_lv [0, 1] rfl ?_
    exact pX13_readReckoned_b42_ok Z hK t0  _ hf
  · rw [if_neg c15] at hf
    refine J_aload_n Z.1 0 dX13_readReckoned_30 rfl rfl ?_
    refine J_get (v := va_rf (hR h14 this 19)) Z.1 dX13_readReckoned_31 fl_X13_31 t0 rfl ?_
    refine J_tr (fun r16 er16 => ?_)
    replace hf := lt_i hf r16 er16
    refine J_iload_n Z.1 1 dX13_readReckoned_34 rfl rfl ?_
    refine J_iconst Z.1 (v := 3) (by decide) dX13_readReckoned_35 ?_
    refine J_iadd Z.1 dX13_readReckoned_36 ?_
    refine J_aload_n Z.1 0 dX13_readReckoned_37 rfl rfl ?_
    replace hf := bd2_i hf
    obtain ⟨x19, h17, q18, hf⟩ := hf
    refine J_callV (ci := 11) (as := []) (rest := [.int (p1 + 3), va_rf r16]) (sy := [.int x19, .int (p1 + 3), va_rf r16]) Z.1 dX13_readReckoned_38 cw_X13_232 (pX13_readRow_ok G (dk - 1) (by omega) q18) rfl rfl t0 (zG Z) rfl (by simp [cat_i, cat_l, cat_d, cat_rf]) (zF Z (by omega)) (zO Z (by omega) (by decide)) (zM _) Z.2.1 Z.2.1 rfl rfl ?_
    replace hf := nn_i hf
    obtain ⟨a16, rfl, hf⟩ := hf
    replace hf := tg_i hf
    obtain ⟨t20, hf⟩ := hf
    replace hf := ix_i hf
    obtain ⟨i21, hf⟩ := hf
    refine J_iastore Z.1 dX13_readReckoned_41 t20 i21 ?_
    refine J_th (fun h22 eh22 => ?_)
    replace hf := lt_i hf h22 eh22
    refine J_lv [0, 1] rfl ?_
    exact pX13_readReckoned_b42_ok Z hK t0  _ hf
theorem dX13_readRest_0 : decode cX13_readRest 0 = .ok (.iload_n 2, 1) := by decide +kernel
theorem dX13_readRest_1 : decode cX13_readRest 1 = .ok (.ifCond .ne 21, 3) := by decide +kernel
theorem dX13_readRest_4 : decode cX13_readRest 4 = .ok (.aload_n 0, 1) := by decide +kernel
theorem dX13_readRest_5 : decode cX13_readRest 5 = .ok (.getfield 31, 3) := by decide +kernel
theorem dX13_readRest_8 : decode cX13_readRest 8 = .ok (.iload_n 1, 1) := by decide +kernel
theorem dX13_readRest_9 : decode cX13_readRest 9 = .ok (.iconst 4, 1) := by decide +kernel
theorem dX13_readRest_10 : decode cX13_readRest 10 = .ok (.iadd, 1) := by decide +kernel
theorem dX13_readRest_11 : decode cX13_readRest 11 = .ok (.aload_n 0, 1) := by decide +kernel
theorem dX13_readRest_12 : decode cX13_readRest 12 = .ok (.iconst 0, 1) := by decide +kernel
theorem dX13_readRest_13 : decode cX13_readRest 13 = .ok (.bipush 16, 2) := by decide +kernel
theorem dX13_readRest_15 : decode cX13_readRest 15 = .ok (.invokevirtual 222, 3) := by decide +kernel
theorem dX13_readRest_18 : decode cX13_readRest 18 = .ok (.iastore, 1) := by decide +kernel
theorem dX13_readRest_19 : decode cX13_readRest 19 = .ok (.goto 229, 3) := by decide +kernel
theorem dX13_readRest_22 : decode cX13_readRest 22 = .ok (.iload_n 2, 1) := by decide +kernel
theorem dX13_readRest_23 : decode cX13_readRest 23 = .ok (.iconst 1, 1) := by decide +kernel
theorem dX13_readRest_24 : decode cX13_readRest 24 = .ok (.if_icmp .eq 9, 3) := by decide +kernel
theorem dX13_readRest_27 : decode cX13_readRest 27 = .ok (.iload_n 2, 1) := by decide +kernel
theorem dX13_readRest_28 : decode cX13_readRest 28 = .ok (.bipush 19, 2) := by decide +kernel
theorem dX13_readRest_30 : decode cX13_readRest 30 = .ok (.if_icmp .ne 18, 3) := by decide +kernel
theorem dX13_readRest_33 : decode cX13_readRest 33 = .ok (.aload_n 0, 1) := by decide +kernel
theorem dX13_readRest_34 : decode cX13_readRest 34 = .ok (.getfield 31, 3) := by decide +kernel
theorem dX13_readRest_37 : decode cX13_readRest 37 = .ok (.iload_n 1, 1) := by decide +kernel
theorem dX13_readRest_38 : decode cX13_readRest 38 = .ok (.iconst 1, 1) := by decide +kernel
theorem dX13_readRest_39 : decode cX13_readRest 39 = .ok (.iadd, 1) := by decide +kernel
theorem dX13_readRest_40 : decode cX13_readRest 40 = .ok (.aload_n 0, 1) := by decide +kernel
theorem dX13_readRest_41 : decode cX13_readRest 41 = .ok (.invokevirtual 232, 3) := by decide +kernel
theorem dX13_readRest_44 : decode cX13_readRest 44 = .ok (.iastore, 1) := by decide +kernel
theorem dX13_readRest_45 : decode cX13_readRest 45 = .ok (.goto 203, 3) := by decide +kernel
theorem dX13_readRest_48 : decode cX13_readRest 48 = .ok (.iload_n 2, 1) := by decide +kernel
theorem dX13_readRest_49 : decode cX13_readRest 49 = .ok (.iconst 2, 1) := by decide +kernel
theorem dX13_readRest_50 : decode cX13_readRest 50 = .ok (.if_icmp .ne 30, 3) := by decide +kernel
theorem dX13_readRest_53 : decode cX13_readRest 53 = .ok (.aload_n 0, 1) := by decide +kernel
theorem dX13_readRest_54 : decode cX13_readRest 54 = .ok (.getfield 31, 3) := by decide +kernel
theorem dX13_readRest_57 : decode cX13_readRest 57 = .ok (.iload_n 1, 1) := by decide +kernel
theorem dX13_readRest_58 : decode cX13_readRest 58 = .ok (.iconst 1, 1) := by decide +kernel
theorem dX13_readRest_59 : decode cX13_readRest 59 = .ok (.iadd, 1) := by decide +kernel
theorem dX13_readRest_60 : decode cX13_readRest 60 = .ok (.aload_n 0, 1) := by decide +kernel
theorem dX13_readRest_61 : decode cX13_readRest 61 = .ok (.invokevirtual 232, 3) := by decide +kernel
theorem dX13_readRest_64 : decode cX13_readRest 64 = .ok (.iastore, 1) := by decide +kernel
theorem dX13_readRest_65 : decode cX13_readRest 65 = .ok (.aload_n 0, 1) := by decide +kernel
theorem dX13_readRest_66 : decode cX13_readRest 66 = .ok (.getfield 31, 3) := by decide +kernel
theorem dX13_readRest_69 : decode cX13_readRest 69 = .ok (.iload_n 1, 1) := by decide +kernel
theorem dX13_readRest_70 : decode cX13_readRest 70 = .ok (.iconst 5, 1) := by decide +kernel
theorem dX13_readRest_71 : decode cX13_readRest 71 = .ok (.iadd, 1) := by decide +kernel
theorem dX13_readRest_72 : decode cX13_readRest 72 = .ok (.aload_n 0, 1) := by decide +kernel
theorem dX13_readRest_73 : decode cX13_readRest 73 = .ok (.invokevirtual 247, 3) := by decide +kernel
theorem dX13_readRest_76 : decode cX13_readRest 76 = .ok (.iastore, 1) := by decide +kernel
theorem dX13_readRest_77 : decode cX13_readRest 77 = .ok (.goto 171, 3) := by decide +kernel
theorem dX13_readRest_80 : decode cX13_readRest 80 = .ok (.iload_n 2, 1) := by decide +kernel
theorem dX13_readRest_81 : decode cX13_readRest 81 = .ok (.iconst 3, 1) := by decide +kernel
theorem dX13_readRest_82 : decode cX13_readRest 82 = .ok (.if_icmp .lt 18, 3) := by decide +kernel
theorem dX13_readRest_85 : decode cX13_readRest 85 = .ok (.iload_n 2, 1) := by decide +kernel
theorem dX13_readRest_86 : decode cX13_readRest 86 = .ok (.bipush 6, 2) := by decide +kernel
theorem dX13_readRest_88 : decode cX13_readRest 88 = .ok (.if_icmp .gt 12, 3) := by decide +kernel
theorem dX13_readRest_91 : decode cX13_readRest 91 = .ok (.aload_n 0, 1) := by decide +kernel
theorem dX13_readRest_92 : decode cX13_readRest 92 = .ok (.iload_n 1, 1) := by decide +kernel
theorem dX13_readRest_93 : decode cX13_readRest 93 = .ok (.iload_n 2, 1) := by decide +kernel
theorem dX13_readRest_94 : decode cX13_readRest 94 = .ok (.invokevirtual 250, 3) := by decide +kernel
theorem dX13_readRest_97 : decode cX13_readRest 97 = .ok (.goto 151, 3) := by decide +kernel
theorem dX13_readRest_100 : decode cX13_readRest 100 = .ok (.iload_n 2, 1) := by decide +kernel
theorem dX13_readRest_101 : decode cX13_readRest 101 = .ok (.bipush 7, 2) := by decide +kernel
theorem dX13_readRest_103 : decode cX13_readRest 103 = .ok (.if_icmp .lt 18, 3) := by decide +kernel
theorem dX13_readRest_106 : decode cX13_readRest 106 = .ok (.iload_n 2, 1) := by decide +kernel
theorem dX13_readRest_107 : decode cX13_readRest 107 = .ok (.bipush 16, 2) := by decide +kernel
theorem dX13_readRest_109 : decode cX13_readRest 109 = .ok (.if_icmp .gt 12, 3) := by decide +kernel
theorem dX13_readRest_112 : decode cX13_readRest 112 = .ok (.aload_n 0, 1) := by decide +kernel
theorem dX13_readRest_113 : decode cX13_readRest 113 = .ok (.iload_n 1, 1) := by decide +kernel
theorem dX13_readRest_114 : decode cX13_readRest 114 = .ok (.iload_n 2, 1) := by decide +kernel
theorem dX13_readRest_115 : decode cX13_readRest 115 = .ok (.invokevirtual 253, 3) := by decide +kernel
theorem dX13_readRest_118 : decode cX13_readRest 118 = .ok (.goto 130, 3) := by decide +kernel
theorem dX13_readRest_121 : decode cX13_readRest 121 = .ok (.iload_n 2, 1) := by decide +kernel
theorem dX13_readRest_122 : decode cX13_readRest 122 = .ok (.bipush 17, 2) := by decide +kernel
theorem dX13_readRest_124 : decode cX13_readRest 124 = .ok (.if_icmp .eq 15, 3) := by decide +kernel
theorem dX13_readRest_127 : decode cX13_readRest 127 = .ok (.iload_n 2, 1) := by decide +kernel
theorem dX13_readRest_128 : decode cX13_readRest 128 = .ok (.bipush 18, 2) := by decide +kernel
theorem dX13_readRest_130 : decode cX13_readRest 130 = .ok (.if_icmp .eq 9, 3) := by decide +kernel
theorem dX13_readRest_133 : decode cX13_readRest 133 = .ok (.iload_n 2, 1) := by decide +kernel
theorem dX13_readRest_134 : decode cX13_readRest 134 = .ok (.bipush 21, 2) := by decide +kernel
theorem dX13_readRest_136 : decode cX13_readRest 136 = .ok (.if_icmp .ne 30, 3) := by decide +kernel
theorem dX13_readRest_139 : decode cX13_readRest 139 = .ok (.aload_n 0, 1) := by decide +kernel
theorem dX13_readRest_140 : decode cX13_readRest 140 = .ok (.getfield 31, 3) := by decide +kernel
theorem dX13_readRest_143 : decode cX13_readRest 143 = .ok (.iload_n 1, 1) := by decide +kernel
theorem dX13_readRest_144 : decode cX13_readRest 144 = .ok (.iconst 1, 1) := by decide +kernel
theorem dX13_readRest_145 : decode cX13_readRest 145 = .ok (.iadd, 1) := by decide +kernel
theorem dX13_readRest_146 : decode cX13_readRest 146 = .ok (.aload_n 0, 1) := by decide +kernel
theorem dX13_readRest_147 : decode cX13_readRest 147 = .ok (.invokevirtual 232, 3) := by decide +kernel
theorem dX13_readRest_150 : decode cX13_readRest 150 = .ok (.iastore, 1) := by decide +kernel
theorem dX13_readRest_151 : decode cX13_readRest 151 = .ok (.aload_n 0, 1) := by decide +kernel
theorem dX13_readRest_152 : decode cX13_readRest 152 = .ok (.getfield 31, 3) := by decide +kernel
theorem dX13_readRest_155 : decode cX13_readRest 155 = .ok (.iload_n 1, 1) := by decide +kernel
theorem dX13_readRest_156 : decode cX13_readRest 156 = .ok (.iconst 2, 1) := by decide +kernel
theorem dX13_readRest_157 : decode cX13_readRest 157 = .ok (.iadd, 1) := by decide +kernel
theorem dX13_readRest_158 : decode cX13_readRest 158 = .ok (.aload_n 0, 1) := by decide +kernel
theorem dX13_readRest_159 : decode cX13_readRest 159 = .ok (.invokevirtual 232, 3) := by decide +kernel
theorem dX13_readRest_162 : decode cX13_readRest 162 = .ok (.iastore, 1) := by decide +kernel
theorem dX13_readRest_163 : decode cX13_readRest 163 = .ok (.goto 85, 3) := by decide +kernel
theorem dX13_readRest_166 : decode cX13_readRest 166 = .ok (.iload_n 2, 1) := by decide +kernel
theorem dX13_readRest_167 : decode cX13_readRest 167 = .ok (.bipush 22, 2) := by decide +kernel
theorem dX13_readRest_169 : decode cX13_readRest 169 = .ok (.if_icmp .ne 18, 3) := by decide +kernel
theorem dX13_readRest_172 : decode cX13_readRest 172 = .ok (.aload_n 0, 1) := by decide +kernel
theorem dX13_readRest_173 : decode cX13_readRest 173 = .ok (.getfield 31, 3) := by decide +kernel
theorem dX13_readRest_176 : decode cX13_readRest 176 = .ok (.iload_n 1, 1) := by decide +kernel
theorem dX13_readRest_177 : decode cX13_readRest 177 = .ok (.iconst 5, 1) := by decide +kernel
theorem dX13_readRest_178 : decode cX13_readRest 178 = .ok (.iadd, 1) := by decide +kernel
theorem dX13_readRest_179 : decode cX13_readRest 179 = .ok (.aload_n 0, 1) := by decide +kernel
theorem dX13_readRest_180 : decode cX13_readRest 180 = .ok (.invokevirtual 247, 3) := by decide +kernel
theorem dX13_readRest_183 : decode cX13_readRest 183 = .ok (.iastore, 1) := by decide +kernel
theorem dX13_readRest_184 : decode cX13_readRest 184 = .ok (.goto 64, 3) := by decide +kernel
theorem dX13_readRest_187 : decode cX13_readRest 187 = .ok (.iload_n 2, 1) := by decide +kernel
theorem dX13_readRest_188 : decode cX13_readRest 188 = .ok (.bipush 23, 2) := by decide +kernel
theorem dX13_readRest_190 : decode cX13_readRest 190 = .ok (.if_icmp .eq 9, 3) := by decide +kernel
theorem dX13_readRest_193 : decode cX13_readRest 193 = .ok (.iload_n 2, 1) := by decide +kernel
theorem dX13_readRest_194 : decode cX13_readRest 194 = .ok (.bipush 24, 2) := by decide +kernel
theorem dX13_readRest_196 : decode cX13_readRest 196 = .ok (.if_icmp .ne 30, 3) := by decide +kernel
theorem dX13_readRest_199 : decode cX13_readRest 199 = .ok (.aload_n 0, 1) := by decide +kernel
theorem dX13_readRest_200 : decode cX13_readRest 200 = .ok (.getfield 31, 3) := by decide +kernel
theorem dX13_readRest_203 : decode cX13_readRest 203 = .ok (.iload_n 1, 1) := by decide +kernel
theorem dX13_readRest_204 : decode cX13_readRest 204 = .ok (.iconst 5, 1) := by decide +kernel
theorem dX13_readRest_205 : decode cX13_readRest 205 = .ok (.iadd, 1) := by decide +kernel
theorem dX13_readRest_206 : decode cX13_readRest 206 = .ok (.aload_n 0, 1) := by decide +kernel
theorem dX13_readRest_207 : decode cX13_readRest 207 = .ok (.invokevirtual 247, 3) := by decide +kernel
theorem dX13_readRest_210 : decode cX13_readRest 210 = .ok (.iastore, 1) := by decide +kernel
theorem dX13_readRest_211 : decode cX13_readRest 211 = .ok (.aload_n 0, 1) := by decide +kernel
theorem dX13_readRest_212 : decode cX13_readRest 212 = .ok (.getfield 31, 3) := by decide +kernel
theorem dX13_readRest_215 : decode cX13_readRest 215 = .ok (.iload_n 1, 1) := by decide +kernel
theorem dX13_readRest_216 : decode cX13_readRest 216 = .ok (.iconst 1, 1) := by decide +kernel
theorem dX13_readRest_217 : decode cX13_readRest 217 = .ok (.iadd, 1) := by decide +kernel
theorem dX13_readRest_218 : decode cX13_readRest 218 = .ok (.aload_n 0, 1) := by decide +kernel
theorem dX13_readRest_219 : decode cX13_readRest 219 = .ok (.invokevirtual 232, 3) := by decide +kernel
theorem dX13_readRest_222 : decode cX13_readRest 222 = .ok (.iastore, 1) := by decide +kernel
theorem dX13_readRest_223 : decode cX13_readRest 223 = .ok (.goto 25, 3) := by decide +kernel
theorem dX13_readRest_226 : decode cX13_readRest 226 = .ok (.iload_n 2, 1) := by decide +kernel
theorem dX13_readRest_227 : decode cX13_readRest 227 = .ok (.bipush 25, 2) := by decide +kernel
theorem dX13_readRest_229 : decode cX13_readRest 229 = .ok (.if_icmp .ne 19, 3) := by decide +kernel
theorem dX13_readRest_232 : decode cX13_readRest 232 = .ok (.aload_n 0, 1) := by decide +kernel
theorem dX13_readRest_233 : decode cX13_readRest 233 = .ok (.getfield 31, 3) := by decide +kernel
theorem dX13_readRest_236 : decode cX13_readRest 236 = .ok (.iload_n 1, 1) := by decide +kernel
theorem dX13_readRest_237 : decode cX13_readRest 237 = .ok (.iconst 4, 1) := by decide +kernel
theorem dX13_readRest_238 : decode cX13_readRest 238 = .ok (.iadd, 1) := by decide +kernel
theorem dX13_readRest_239 : decode cX13_readRest 239 = .ok (.aload_n 0, 1) := by decide +kernel
theorem dX13_readRest_240 : decode cX13_readRest 240 = .ok (.iconst 0, 1) := by decide +kernel
theorem dX13_readRest_241 : decode cX13_readRest 241 = .ok (.sipush 200, 3) := by decide +kernel
theorem dX13_readRest_244 : decode cX13_readRest 244 = .ok (.invokevirtual 222, 3) := by decide +kernel
theorem dX13_readRest_247 : decode cX13_readRest 247 = .ok (.iastore, 1) := by decide +kernel
theorem dX13_readRest_248 : decode cX13_readRest 248 = .ok (.return_, 1) := by decide +kernel
def pX13_readRest_b33 (g : MT) (this : Nat) (p1 : Int32) (p2 : Int32) (h : CT) : Option CT := lt (hR h this 19) fun r1 => (bd2 (pX13_readRow g h this) fun x4 h2 => (nn r1 fun a1 => (tg g a1 20 (ix (gL g a1) (p1 + 1) (lt (sI h2 a1 (Int32.toNatClampNeg (p1 + 1)) x4) fun h7 => (some h7))))))
set_option maxRecDepth 10000 in
set_option maxHeartbeats 4000000 in
theorem pX13_readRest_b33_ok {X : Cx} {G : Gx} {dk : Nat} {g : MT} {h0 : CT} {this : Nat} {p1 : Int32} {p2 : Int32} (Z : Zx X G cX13_readRest RX13 3 dk none none g h0) (hK : 5 ≤ dk) (t0 : gT g this = 12) (h : CT) (hf : pX13_readRest_b33 g this p1 p2 h = some h0) : J X g h 33 [(0, va_rf (some this)), (1, .int p1)] [] := by
  unfold pX13_readRest_b33 at hf
  refine J_aload_n Z.1 0 dX13_readRest_33 rfl rfl ?_
  refine J_get (v := va_rf (hR h this 19)) Z.1 dX13_readRest_34 fl_X13_31 t0 rfl ?_
  refine J_tr (fun r1 er1 => ?_)
  replace hf := lt_i hf r1 er1
  refine J_iload_n Z.1 1 dX13_readRest_37 rfl rfl ?_
  refine J_iconst Z.1 (v := 1) (by decide) dX13_readRest_38 ?_
  refine J_iadd Z.1 dX13_readRest_39 ?_
  refine J_aload_n Z.1 0 dX13_readRest_40 rfl rfl ?_
  replace hf := bd2_i hf
  obtain ⟨x4, h2, q3, hf⟩ := hf
  refine J_callV (ci := 11) (as := []) (rest := [.int (p1 + 1), va_rf r1]) (sy := [.int x4, .int (p1 + 1), va_rf r1]) Z.1 dX13_readRest_41 cw_X13_232 (pX13_readRow_ok G (dk - 1) (by omega) q3) rfl rfl t0 (zG Z) rfl (by simp [cat_i, cat_l, cat_d, cat_rf]) (zF Z (by omega)) (zO Z (by omega) (by decide)) (zM _) Z.2.1 Z.2.1 rfl rfl ?_
  replace hf := nn_i hf
  obtain ⟨a1, rfl, hf⟩ := hf
  replace hf := tg_i hf
  obtain ⟨t5, hf⟩ := hf
  replace hf := ix_i hf
  obtain ⟨i6, hf⟩ := hf
  refine J_iastore Z.1 dX13_readRest_44 t5 i6 ?_
  refine J_th (fun h7 eh7 => ?_)
  replace hf := lt_i hf h7 eh7
  refine J_goto Z.1 248 dX13_readRest_45 (by decide) ?_
  cases hf
  exact J_vret Z.1 Z.2.2.2.2.2 dX13_readRest_248
def pX13_readRest_b139 (g : MT) (this : Nat) (p1 : Int32) (p2 : Int32) (h : CT) : Option CT := lt (hR h this 19) fun r1 => (bd2 (pX13_readRow g h this) fun x4 h2 => (nn r1 fun a1 => (tg g a1 20 (ix (gL g a1) (p1 + 1) (lt (sI h2 a1 (Int32.toNatClampNeg (p1 + 1)) x4) fun h7 => (lt (hR h7 this 19) fun r8 => (bd2 (pX13_readRow g h7 this) fun x11 h9 => (nn r8 fun a8 => (tg g a8 20 (ix (gL g a8) (p1 + 2) (lt (sI h9 a8 (Int32.toNatClampNeg (p1 + 2)) x11) fun h14 => (some h14))))))))))))
set_option maxRecDepth 10000 in
set_option maxHeartbeats 4000000 in
theorem pX13_readRest_b139_ok {X : Cx} {G : Gx} {dk : Nat} {g : MT} {h0 : CT} {this : Nat} {p1 : Int32} {p2 : Int32} (Z : Zx X G cX13_readRest RX13 3 dk none none g h0) (hK : 5 ≤ dk) (t0 : gT g this = 12) (h : CT) (hf : pX13_readRest_b139 g this p1 p2 h = some h0) : J X g h 139 [(0, va_rf (some this)), (1, .int p1)] [] := by
  unfold pX13_readRest_b139 at hf
  refine J_aload_n Z.1 0 dX13_readRest_139 rfl rfl ?_
  refine J_get (v := va_rf (hR h this 19)) Z.1 dX13_readRest_140 fl_X13_31 t0 rfl ?_
  refine J_tr (fun r1 er1 => ?_)
  replace hf := lt_i hf r1 er1
  refine J_iload_n Z.1 1 dX13_readRest_143 rfl rfl ?_
  refine J_iconst Z.1 (v := 1) (by decide) dX13_readRest_144 ?_
  refine J_iadd Z.1 dX13_readRest_145 ?_
  refine J_aload_n Z.1 0 dX13_readRest_146 rfl rfl ?_
  replace hf := bd2_i hf
  obtain ⟨x4, h2, q3, hf⟩ := hf
  refine J_callV (ci := 11) (as := []) (rest := [.int (p1 + 1), va_rf r1]) (sy := [.int x4, .int (p1 + 1), va_rf r1]) Z.1 dX13_readRest_147 cw_X13_232 (pX13_readRow_ok G (dk - 1) (by omega) q3) rfl rfl t0 (zG Z) rfl (by simp [cat_i, cat_l, cat_d, cat_rf]) (zF Z (by omega)) (zO Z (by omega) (by decide)) (zM _) Z.2.1 Z.2.1 rfl rfl ?_
  replace hf := nn_i hf
  obtain ⟨a1, rfl, hf⟩ := hf
  replace hf := tg_i hf
  obtain ⟨t5, hf⟩ := hf
  replace hf := ix_i hf
  obtain ⟨i6, hf⟩ := hf
  refine J_iastore Z.1 dX13_readRest_150 t5 i6 ?_
  refine J_th (fun h7 eh7 => ?_)
  replace hf := lt_i hf h7 eh7
  refine J_aload_n Z.1 0 dX13_readRest_151 rfl rfl ?_
  refine J_get (v := va_rf (hR h7 this 19)) Z.1 dX13_readRest_152 fl_X13_31 t0 rfl ?_
  refine J_tr (fun r8 er8 => ?_)
  replace hf := lt_i hf r8 er8
  refine J_iload_n Z.1 1 dX13_readRest_155 rfl rfl ?_
  refine J_iconst Z.1 (v := 2) (by decide) dX13_readRest_156 ?_
  refine J_iadd Z.1 dX13_readRest_157 ?_
  refine J_aload_n Z.1 0 dX13_readRest_158 rfl rfl ?_
  replace hf := bd2_i hf
  obtain ⟨x11, h9, q10, hf⟩ := hf
  refine J_callV (ci := 11) (as := []) (rest := [.int (p1 + 2), va_rf r8]) (sy := [.int x11, .int (p1 + 2), va_rf r8]) Z.1 dX13_readRest_159 cw_X13_232 (pX13_readRow_ok G (dk - 1) (by omega) q10) rfl rfl t0 (zG Z) rfl (by simp [cat_i, cat_l, cat_d, cat_rf]) (zF Z (by omega)) (zO Z (by omega) (by decide)) (zM _) Z.2.1 Z.2.1 rfl rfl ?_
  replace hf := nn_i hf
  obtain ⟨a8, rfl, hf⟩ := hf
  replace hf := tg_i hf
  obtain ⟨t12, hf⟩ := hf
  replace hf := ix_i hf
  obtain ⟨i13, hf⟩ := hf
  refine J_iastore Z.1 dX13_readRest_162 t12 i13 ?_
  refine J_th (fun h14 eh14 => ?_)
  replace hf := lt_i hf h14 eh14
  refine J_goto Z.1 248 dX13_readRest_163 (by decide) ?_
  cases hf
  exact J_vret Z.1 Z.2.2.2.2.2 dX13_readRest_248
def pX13_readRest_b199 (g : MT) (this : Nat) (p1 : Int32) (p2 : Int32) (h : CT) : Option CT := lt (hR h this 19) fun r1 => (bd2 (pX13_readScalar g h this) fun x4 h2 => (nn r1 fun a1 => (tg g a1 20 (ix (gL g a1) (p1 + 5) (lt (sI h2 a1 (Int32.toNatClampNeg (p1 + 5)) x4) fun h7 => (lt (hR h7 this 19) fun r8 => (bd2 (pX13_readRow g h7 this) fun x11 h9 => (nn r8 fun a8 => (tg g a8 20 (ix (gL g a8) (p1 + 1) (lt (sI h9 a8 (Int32.toNatClampNeg (p1 + 1)) x11) fun h14 => (some h14))))))))))))
set_option maxRecDepth 10000 in
set_option maxHeartbeats 4000000 in
theorem pX13_readRest_b199_ok {X : Cx} {G : Gx} {dk : Nat} {g : MT} {h0 : CT} {this : Nat} {p1 : Int32} {p2 : Int32} (Z : Zx X G cX13_readRest RX13 3 dk none none g h0) (hK : 5 ≤ dk) (t0 : gT g this = 12) (h : CT) (hf : pX13_readRest_b199 g this p1 p2 h = some h0) : J X g h 199 [(0, va_rf (some this)), (1, .int p1)] [] := by
  unfold pX13_readRest_b199 at hf
  refine J_aload_n Z.1 0 dX13_readRest_199 rfl rfl ?_
  refine J_get (v := va_rf (hR h this 19)) Z.1 dX13_readRest_200 fl_X13_31 t0 rfl ?_
  refine J_tr (fun r1 er1 => ?_)
  replace hf := lt_i hf r1 er1
  refine J_iload_n Z.1 1 dX13_readRest_203 rfl rfl ?_
  refine J_iconst Z.1 (v := 5) (by decide) dX13_readRest_204 ?_
  refine J_iadd Z.1 dX13_readRest_205 ?_
  refine J_aload_n Z.1 0 dX13_readRest_206 rfl rfl ?_
  replace hf := bd2_i hf
  obtain ⟨x4, h2, q3, hf⟩ := hf
  refine J_callV (ci := 11) (as := []) (rest := [.int (p1 + 5), va_rf r1]) (sy := [.int x4, .int (p1 + 5), va_rf r1]) Z.1 dX13_readRest_207 cw_X13_247 (pX13_readScalar_ok G (dk - 1) (by omega) q3) rfl rfl t0 (zG Z) rfl (by simp [cat_i, cat_l, cat_d, cat_rf]) (zF Z (by omega)) (zO Z (by omega) (by decide)) (zM _) Z.2.1 Z.2.1 rfl rfl ?_
  replace hf := nn_i hf
  obtain ⟨a1, rfl, hf⟩ := hf
  replace hf := tg_i hf
  obtain ⟨t5, hf⟩ := hf
  replace hf := ix_i hf
  obtain ⟨i6, hf⟩ := hf
  refine J_iastore Z.1 dX13_readRest_210 t5 i6 ?_
  refine J_th (fun h7 eh7 => ?_)
  replace hf := lt_i hf h7 eh7
  refine J_aload_n Z.1 0 dX13_readRest_211 rfl rfl ?_
  refine J_get (v := va_rf (hR h7 this 19)) Z.1 dX13_readRest_212 fl_X13_31 t0 rfl ?_
  refine J_tr (fun r8 er8 => ?_)
  replace hf := lt_i hf r8 er8
  refine J_iload_n Z.1 1 dX13_readRest_215 rfl rfl ?_
  refine J_iconst Z.1 (v := 1) (by decide) dX13_readRest_216 ?_
  refine J_iadd Z.1 dX13_readRest_217 ?_
  refine J_aload_n Z.1 0 dX13_readRest_218 rfl rfl ?_
  replace hf := bd2_i hf
  obtain ⟨x11, h9, q10, hf⟩ := hf
  refine J_callV (ci := 11) (as := []) (rest := [.int (p1 + 1), va_rf r8]) (sy := [.int x11, .int (p1 + 1), va_rf r8]) Z.1 dX13_readRest_219 cw_X13_232 (pX13_readRow_ok G (dk - 1) (by omega) q10) rfl rfl t0 (zG Z) rfl (by simp [cat_i, cat_l, cat_d, cat_rf]) (zF Z (by omega)) (zO Z (by omega) (by decide)) (zM _) Z.2.1 Z.2.1 rfl rfl ?_
  replace hf := nn_i hf
  obtain ⟨a8, rfl, hf⟩ := hf
  replace hf := tg_i hf
  obtain ⟨t12, hf⟩ := hf
  replace hf := ix_i hf
  obtain ⟨i13, hf⟩ := hf
  refine J_iastore Z.1 dX13_readRest_222 t12 i13 ?_
  refine J_th (fun h14 eh14 => ?_)
  replace hf := lt_i hf h14 eh14
  refine J_goto Z.1 248 dX13_readRest_223 (by decide) ?_
  cases hf
  exact J_vret Z.1 Z.2.2.2.2.2 dX13_readRest_248
def pX13_readRest_b121 (g : MT) (this : Nat) (p1 : Int32) (p2 : Int32) (h : CT) : Option CT := if p2 = 17 then pX13_readRest_b139 g this p1 p2  h else if p2 = 18 then pX13_readRest_b139 g this p1 p2  h else if p2 = 21 then pX13_readRest_b139 g this p1 p2  h else if p2 = 22 then lt (hR h this 19) fun r15 => (bd2 (pX13_readScalar g h this) fun x18 h16 => (nn r15 fun a15 => (tg g a15 20 (ix (gL g a15) (p1 + 5) (lt (sI h16 a15 (Int32.toNatClampNeg (p1 + 5)) x18) fun h21 => (some h21)))))) else if p2 = 23 then pX13_readRest_b199 g this p1 p2  h else if p2 = 24 then pX13_readRest_b199 g this p1 p2  h else if p2 = 25 then lt (hR h this 19) fun r8 => (bd2 (pX13_countOf g h this 0 200) fun x11 h9 => (nn r8 fun a8 => (tg g a8 20 (ix (gL g a8) (p1 + 4) (lt (sI h9 a8 (Int32.toNatClampNeg (p1 + 4)) x11) fun h14 => (some h14)))))) else some h
set_option maxRecDepth 10000 in
set_option maxHeartbeats 4000000 in
theorem pX13_readRest_b121_ok {X : Cx} {G : Gx} {dk : Nat} {g : MT} {h0 : CT} {this : Nat} {p1 : Int32} {p2 : Int32} (Z : Zx X G cX13_readRest RX13 3 dk none none g h0) (hK : 5 ≤ dk) (t0 : gT g this = 12) (h : CT) (hf : pX13_readRest_b121 g this p1 p2 h = some h0) : J X g h 121 [(0, va_rf (some this)), (1, .int p1), (2, .int p2)] [] := by
  unfold pX13_readRest_b121 at hf
  refine J_iload_n Z.1 2 dX13_readRest_121 rfl rfl ?_
  refine J_bipush Z.1 (v := 17) (by decide) dX13_readRest_122 ?_
  refine J_icmp_eq Z.1 139 dX13_readRest_124 (by decide) (fun c1 => ?_) (fun c1 => ?_)
  · rw [if_pos c1] at hf
    refine J_lv [0, 1] rfl ?_
    exact pX13_readRest_b139_ok Z hK t0  _ hf
  · rw [if_neg c1] at hf
    refine J_iload_n Z.1 2 dX13_readRest_127 rfl rfl ?_
    refine J_bipush Z.1 (v := 18) (by decide) dX13_readRest_128 ?_
    refine J_icmp_eq Z.1 139 dX13_readRest_130 (by decide) (fun c2 => ?_) (fun c2 => ?_)
    · rw [if_pos c2] at hf
      refine J_lv [0, 1] rfl ?_
      exact pX13_readRest_b139_ok Z hK t0  _ hf
    · rw [if_neg c2] at hf
      refine J_iload_n Z.1 2 dX13_readRest_133 rfl rfl ?_
      refine J_bipush Z.1 (v := 21) (by decide) dX13_readRest_134 ?_
      refine J_icmp_ne Z.1 166 dX13_readRest_136 (by decide) (fun c3 => ?_) (fun c3 => ?_)
      · rw [if_neg c3] at hf
        refine J_iload_n Z.1 2 dX13_readRest_166 rfl rfl ?_
        refine J_bipush Z.1 (v := 22) (by decide) dX13_readRest_167 ?_
        refine J_icmp_ne Z.1 187 dX13_readRest_169 (by decide) (fun c4 => ?_) (fun c4 => ?_)
        · rw [if_neg c4] at hf
          refine J_iload_n Z.1 2 dX13_readRest_187 rfl rfl ?_
          refine J_bipush Z.1 (v := 23) (by decide) dX13_readRest_188 ?_
          refine J_icmp_eq Z.1 199 dX13_readRest_190 (by decide) (fun c5 => ?_) (fun c5 => ?_)
          · rw [if_pos c5] at hf
            refine J_lv [0, 1] rfl ?_
            exact pX13_readRest_b199_ok Z hK t0  _ hf
          · rw [if_neg c5] at hf
            refine J_iload_n Z.1 2 dX13_readRest_193 rfl rfl ?_
            refine J_bipush Z.1 (v := 24) (by decide) dX13_readRest_194 ?_
            refine J_icmp_ne Z.1 226 dX13_readRest_196 (by decide) (fun c6 => ?_) (fun c6 => ?_)
            · rw [if_neg c6] at hf
              refine J_iload_n Z.1 2 dX13_readRest_226 rfl rfl ?_
              refine J_bipush Z.1 (v := 25) (by decide) dX13_readRest_227 ?_
              refine J_icmp_ne Z.1 248 dX13_readRest_229 (by decide) (fun c7 => ?_) (fun c7 => ?_)
              · rw [if_neg c7] at hf
                cases hf
                exact J_vret Z.1 Z.2.2.2.2.2 dX13_readRest_248
              · rw [if_pos c7] at hf
                refine J_aload_n Z.1 0 dX13_readRest_232 rfl rfl ?_
                refine J_get (v := va_rf (hR h this 19)) Z.1 dX13_readRest_233 fl_X13_31 t0 rfl ?_
                refine J_tr (fun r8 er8 => ?_)
                replace hf := lt_i hf r8 er8
                refine J_iload_n Z.1 1 dX13_readRest_236 rfl rfl ?_
                refine J_iconst Z.1 (v := 4) (by decide) dX13_readRest_237 ?_
                refine J_iadd Z.1 dX13_readRest_238 ?_
                refine J_aload_n Z.1 0 dX13_readRest_239 rfl rfl ?_
                refine J_iconst Z.1 (v := 0) (by decide) dX13_readRest_240 ?_
                refine J_sipush Z.1 (v := 200) (by decide) dX13_readRest_241 ?_
                replace hf := bd2_i hf
                obtain ⟨x11, h9, q10, hf⟩ := hf
                refine J_callV (ci := 11) (as := [.int 0, .int 200]) (rest := [.int (p1 + 4), va_rf r8]) (sy := [.int x11, .int (p1 + 4), va_rf r8]) Z.1 dX13_readRest_244 cw_X13_222 (pX13_countOf_ok G (dk - 1) (by omega) q10) rfl rfl t0 (zG Z) rfl (by simp [cat_i, cat_l, cat_d, cat_rf]) (zF Z (by omega)) (zO Z (by omega) (by decide)) (zM _) Z.2.1 Z.2.1 rfl rfl ?_
                replace hf := nn_i hf
                obtain ⟨a8, rfl, hf⟩ := hf
                replace hf := tg_i hf
                obtain ⟨t12, hf⟩ := hf
                replace hf := ix_i hf
                obtain ⟨i13, hf⟩ := hf
                refine J_iastore Z.1 dX13_readRest_247 t12 i13 ?_
                refine J_th (fun h14 eh14 => ?_)
                replace hf := lt_i hf h14 eh14
                cases hf
                exact J_vret Z.1 Z.2.2.2.2.2 dX13_readRest_248
            · rw [if_pos c6] at hf
              refine J_lv [0, 1] rfl ?_
              exact pX13_readRest_b199_ok Z hK t0  _ hf
        · rw [if_pos c4] at hf
          refine J_aload_n Z.1 0 dX13_readRest_172 rfl rfl ?_
          refine J_get (v := va_rf (hR h this 19)) Z.1 dX13_readRest_173 fl_X13_31 t0 rfl ?_
          refine J_tr (fun r15 er15 => ?_)
          replace hf := lt_i hf r15 er15
          refine J_iload_n Z.1 1 dX13_readRest_176 rfl rfl ?_
          refine J_iconst Z.1 (v := 5) (by decide) dX13_readRest_177 ?_
          refine J_iadd Z.1 dX13_readRest_178 ?_
          refine J_aload_n Z.1 0 dX13_readRest_179 rfl rfl ?_
          replace hf := bd2_i hf
          obtain ⟨x18, h16, q17, hf⟩ := hf
          refine J_callV (ci := 11) (as := []) (rest := [.int (p1 + 5), va_rf r15]) (sy := [.int x18, .int (p1 + 5), va_rf r15]) Z.1 dX13_readRest_180 cw_X13_247 (pX13_readScalar_ok G (dk - 1) (by omega) q17) rfl rfl t0 (zG Z) rfl (by simp [cat_i, cat_l, cat_d, cat_rf]) (zF Z (by omega)) (zO Z (by omega) (by decide)) (zM _) Z.2.1 Z.2.1 rfl rfl ?_
          replace hf := nn_i hf
          obtain ⟨a15, rfl, hf⟩ := hf
          replace hf := tg_i hf
          obtain ⟨t19, hf⟩ := hf
          replace hf := ix_i hf
          obtain ⟨i20, hf⟩ := hf
          refine J_iastore Z.1 dX13_readRest_183 t19 i20 ?_
          refine J_th (fun h21 eh21 => ?_)
          replace hf := lt_i hf h21 eh21
          refine J_goto Z.1 248 dX13_readRest_184 (by decide) ?_
          cases hf
          exact J_vret Z.1 Z.2.2.2.2.2 dX13_readRest_248
      · rw [if_pos c3] at hf
        refine J_lv [0, 1] rfl ?_
        exact pX13_readRest_b139_ok Z hK t0  _ hf
def pX13_readRest_b100 (g : MT) (this : Nat) (p1 : Int32) (p2 : Int32) (h : CT) : Option CT := if p2 < 7 then pX13_readRest_b121 g this p1 p2  h else if 16 < p2 then pX13_readRest_b121 g this p1 p2  h else bd (pX13_readReckoned g h this p1 p2) fun h3 => (some h3)
set_option maxRecDepth 10000 in
set_option maxHeartbeats 4000000 in
theorem pX13_readRest_b100_ok {X : Cx} {G : Gx} {dk : Nat} {g : MT} {h0 : CT} {this : Nat} {p1 : Int32} {p2 : Int32} (Z : Zx X G cX13_readRest RX13 3 dk none none g h0) (hK : 5 ≤ dk) (t0 : gT g this = 12) (h : CT) (hf : pX13_readRest_b100 g this p1 p2 h = some h0) : J X g h 100 [(0, va_rf (some this)), (1, .int p1), (2, .int p2)] [] := by
  unfold pX13_readRest_b100 at hf
  refine J_iload_n Z.1 2 dX13_readRest_100 rfl rfl ?_
  refine J_bipush Z.1 (v := 7) (by decide) dX13_readRest_101 ?_
  refine J_icmp_lt Z.1 121 dX13_readRest_103 (by decide) (fun c1 => ?_) (fun c1 => ?_)
  · rw [if_pos c1] at hf
    exact pX13_readRest_b121_ok Z hK t0  _ hf
  · rw [if_neg c1] at hf
    refine J_iload_n Z.1 2 dX13_readRest_106 rfl rfl ?_
    refine J_bipush Z.1 (v := 16) (by decide) dX13_readRest_107 ?_
    refine J_icmp_gt Z.1 121 dX13_readRest_109 (by decide) (fun c2 => ?_) (fun c2 => ?_)
    · rw [if_pos c2] at hf
      exact pX13_readRest_b121_ok Z hK t0  _ hf
    · rw [if_neg c2] at hf
      refine J_aload_n Z.1 0 dX13_readRest_112 rfl rfl ?_
      refine J_iload_n Z.1 1 dX13_readRest_113 rfl rfl ?_
      refine J_iload_n Z.1 2 dX13_readRest_114 rfl rfl ?_
      replace hf := bd_i hf
      obtain ⟨h3, q4, hf⟩ := hf
      refine J_callV (ci := 11) (as := [.int p1, .int p2]) (rest := []) (sy := []) Z.1 dX13_readRest_115 cw_X13_253 (pX13_readReckoned_ok G (dk - 1) (by omega) q4) rfl rfl t0 (zG Z) rfl (by decide) (zF Z (by omega)) (zO Z (by omega) (by decide)) (zM _) Z.2.1 Z.2.1 rfl rfl ?_
      refine J_goto Z.1 248 dX13_readRest_118 (by decide) ?_
      cases hf
      exact J_vret Z.1 Z.2.2.2.2.2 dX13_readRest_248
def pX13_readRest (g : MT) (h : CT) (this : Nat) (p1 : Int32) (p2 : Int32) : Option CT := tg g this 12 (if p2 = 0 then lt (hR h this 19) fun r23 => (bd2 (pX13_countOf g h this 0 16) fun x26 h24 => (nn r23 fun a23 => (tg g a23 20 (ix (gL g a23) (p1 + 4) (lt (sI h24 a23 (Int32.toNatClampNeg (p1 + 4)) x26) fun h29 => (some h29)))))) else if p2 = 1 then pX13_readRest_b33 g this p1 p2  h else if p2 = 19 then pX13_readRest_b33 g this p1 p2  h else if p2 = 2 then lt (hR h this 19) fun r9 => (bd2 (pX13_readRow g h this) fun x12 h10 => (nn r9 fun a9 => (tg g a9 20 (ix (gL g a9) (p1 + 1) (lt (sI h10 a9 (Int32.toNatClampNeg (p1 + 1)) x12) fun h15 => (lt (hR h15 this 19) fun r16 => (bd2 (pX13_readScalar g h15 this) fun x19 h17 => (nn r16 fun a16 => (tg g a16 20 (ix (gL g a16) (p1 + 5) (lt (sI h17 a16 (Int32.toNatClampNeg (p1 + 5)) x19) fun h22 => (some h22)))))))))))) else if p2 < 3 then pX13_readRest_b100 g this p1 p2  h else if 6 < p2 then pX13_readRest_b100 g this p1 p2  h else bd (pX13_readMemory g h this p1 p2) fun h7 => (some h7))
set_option maxRecDepth 10000 in
set_option maxHeartbeats 4000000 in
theorem pX13_readRest_ok (G : Gx) (dk : Nat) (hK : 5 ≤ dk) {g : MT} {h h0 : CT} {this : Nat} {p1 : Int32} {p2 : Int32} (hf : pX13_readRest g h this p1 p2 = some h0) : Ctr G dk yX13_readRest cX13_readRest 3 none [va_rf (some this), .int p1, .int p2] g h none g h0 := by
  refine Ctr.ofZ (lv := [(0, va_rf (some this)), (1, .int p1), (2, .int p2)]) (by decide +kernel) (by simp [cat_i, cat_l, cat_d, cat_rf]) rfl fun X Z => ?_
  unfold pX13_readRest at hf
  replace hf := tg_i hf
  obtain ⟨t0, hf⟩ := hf
  refine J_iload_n Z.1 2 dX13_readRest_0 rfl rfl ?_
  refine J_if_ne Z.1 22 dX13_readRest_1 (by decide) (fun c1 => ?_) (fun c1 => ?_)
  · rw [if_neg c1] at hf
    refine J_iload_n Z.1 2 dX13_readRest_22 rfl rfl ?_
    refine J_iconst Z.1 (v := 1) (by decide) dX13_readRest_23 ?_
    refine J_icmp_eq Z.1 33 dX13_readRest_24 (by decide) (fun c2 => ?_) (fun c2 => ?_)
    · rw [if_pos c2] at hf
      refine J_lv [0, 1] rfl ?_
      exact pX13_readRest_b33_ok Z hK t0  _ hf
    · rw [if_neg c2] at hf
      refine J_iload_n Z.1 2 dX13_readRest_27 rfl rfl ?_
      refine J_bipush Z.1 (v := 19) (by decide) dX13_readRest_28 ?_
      refine J_icmp_ne Z.1 48 dX13_readRest_30 (by decide) (fun c3 => ?_) (fun c3 => ?_)
      · rw [if_neg c3] at hf
        refine J_iload_n Z.1 2 dX13_readRest_48 rfl rfl ?_
        refine J_iconst Z.1 (v := 2) (by decide) dX13_readRest_49 ?_
        refine J_icmp_ne Z.1 80 dX13_readRest_50 (by decide) (fun c4 => ?_) (fun c4 => ?_)
        · rw [if_neg c4] at hf
          refine J_iload_n Z.1 2 dX13_readRest_80 rfl rfl ?_
          refine J_iconst Z.1 (v := 3) (by decide) dX13_readRest_81 ?_
          refine J_icmp_lt Z.1 100 dX13_readRest_82 (by decide) (fun c5 => ?_) (fun c5 => ?_)
          · rw [if_pos c5] at hf
            exact pX13_readRest_b100_ok Z hK t0  _ hf
          · rw [if_neg c5] at hf
            refine J_iload_n Z.1 2 dX13_readRest_85 rfl rfl ?_
            refine J_bipush Z.1 (v := 6) (by decide) dX13_readRest_86 ?_
            refine J_icmp_gt Z.1 100 dX13_readRest_88 (by decide) (fun c6 => ?_) (fun c6 => ?_)
            · rw [if_pos c6] at hf
              exact pX13_readRest_b100_ok Z hK t0  _ hf
            · rw [if_neg c6] at hf
              refine J_aload_n Z.1 0 dX13_readRest_91 rfl rfl ?_
              refine J_iload_n Z.1 1 dX13_readRest_92 rfl rfl ?_
              refine J_iload_n Z.1 2 dX13_readRest_93 rfl rfl ?_
              replace hf := bd_i hf
              obtain ⟨h7, q8, hf⟩ := hf
              refine J_callV (ci := 11) (as := [.int p1, .int p2]) (rest := []) (sy := []) Z.1 dX13_readRest_94 cw_X13_250 (pX13_readMemory_ok G (dk - 1) (by omega) q8) rfl rfl t0 (zG Z) rfl (by decide) (zF Z (by omega)) (zO Z (by omega) (by decide)) (zM _) Z.2.1 Z.2.1 rfl rfl ?_
              refine J_goto Z.1 248 dX13_readRest_97 (by decide) ?_
              cases hf
              exact J_vret Z.1 Z.2.2.2.2.2 dX13_readRest_248
        · rw [if_pos c4] at hf
          refine J_aload_n Z.1 0 dX13_readRest_53 rfl rfl ?_
          refine J_get (v := va_rf (hR h this 19)) Z.1 dX13_readRest_54 fl_X13_31 t0 rfl ?_
          refine J_tr (fun r9 er9 => ?_)
          replace hf := lt_i hf r9 er9
          refine J_iload_n Z.1 1 dX13_readRest_57 rfl rfl ?_
          refine J_iconst Z.1 (v := 1) (by decide) dX13_readRest_58 ?_
          refine J_iadd Z.1 dX13_readRest_59 ?_
          refine J_aload_n Z.1 0 dX13_readRest_60 rfl rfl ?_
          replace hf := bd2_i hf
          obtain ⟨x12, h10, q11, hf⟩ := hf
          refine J_callV (ci := 11) (as := []) (rest := [.int (p1 + 1), va_rf r9]) (sy := [.int x12, .int (p1 + 1), va_rf r9]) Z.1 dX13_readRest_61 cw_X13_232 (pX13_readRow_ok G (dk - 1) (by omega) q11) rfl rfl t0 (zG Z) rfl (by simp [cat_i, cat_l, cat_d, cat_rf]) (zF Z (by omega)) (zO Z (by omega) (by decide)) (zM _) Z.2.1 Z.2.1 rfl rfl ?_
          replace hf := nn_i hf
          obtain ⟨a9, rfl, hf⟩ := hf
          replace hf := tg_i hf
          obtain ⟨t13, hf⟩ := hf
          replace hf := ix_i hf
          obtain ⟨i14, hf⟩ := hf
          refine J_iastore Z.1 dX13_readRest_64 t13 i14 ?_
          refine J_th (fun h15 eh15 => ?_)
          replace hf := lt_i hf h15 eh15
          refine J_aload_n Z.1 0 dX13_readRest_65 rfl rfl ?_
          refine J_get (v := va_rf (hR h15 this 19)) Z.1 dX13_readRest_66 fl_X13_31 t0 rfl ?_
          refine J_tr (fun r16 er16 => ?_)
          replace hf := lt_i hf r16 er16
          refine J_iload_n Z.1 1 dX13_readRest_69 rfl rfl ?_
          refine J_iconst Z.1 (v := 5) (by decide) dX13_readRest_70 ?_
          refine J_iadd Z.1 dX13_readRest_71 ?_
          refine J_aload_n Z.1 0 dX13_readRest_72 rfl rfl ?_
          replace hf := bd2_i hf
          obtain ⟨x19, h17, q18, hf⟩ := hf
          refine J_callV (ci := 11) (as := []) (rest := [.int (p1 + 5), va_rf r16]) (sy := [.int x19, .int (p1 + 5), va_rf r16]) Z.1 dX13_readRest_73 cw_X13_247 (pX13_readScalar_ok G (dk - 1) (by omega) q18) rfl rfl t0 (zG Z) rfl (by simp [cat_i, cat_l, cat_d, cat_rf]) (zF Z (by omega)) (zO Z (by omega) (by decide)) (zM _) Z.2.1 Z.2.1 rfl rfl ?_
          replace hf := nn_i hf
          obtain ⟨a16, rfl, hf⟩ := hf
          replace hf := tg_i hf
          obtain ⟨t20, hf⟩ := hf
          replace hf := ix_i hf
          obtain ⟨i21, hf⟩ := hf
          refine J_iastore Z.1 dX13_readRest_76 t20 i21 ?_
          refine J_th (fun h22 eh22 => ?_)
          replace hf := lt_i hf h22 eh22
          refine J_goto Z.1 248 dX13_readRest_77 (by decide) ?_
          cases hf
          exact J_vret Z.1 Z.2.2.2.2.2 dX13_readRest_248
      · rw [if_pos c3] at hf
        refine J_lv [0, 1] rfl ?_
        exact pX13_readRest_b33_ok Z hK t0  _ hf
  · rw [if_pos c1] at hf
    refine J_aload_n Z.1 0 dX13_readRest_4 rfl rfl ?_
    refine J_get (v := va_rf (hR h this 19)) Z.1 dX13_readRest_5 fl_X13_31 t0 rfl ?_
    refine J_tr (fun r23 er23 => ?_)
    replace hf := lt_i hf r23 er23
    refine J_iload_n Z.1 1 dX13_readRest_8 rfl rfl ?_
    refine J_iconst Z.1 (v := 4) (by decide) dX13_readRest_9 ?_
    refine J_iadd Z.1 dX13_readRest_10 ?_
    refine J_aload_n Z.1 0 dX13_readRest_11 rfl rfl ?_
    refine J_iconst Z.1 (v := 0) (by decide) dX13_readRest_12 ?_
    refine J_bipush Z.1 (v := 16) (by decide) dX13_readRest_13 ?_
    replace hf := bd2_i hf
    obtain ⟨x26, h24, q25, hf⟩ := hf
    refine J_callV (ci := 11) (as := [.int 0, .int 16]) (rest := [.int (p1 + 4), va_rf r23]) (sy := [.int x26, .int (p1 + 4), va_rf r23]) Z.1 dX13_readRest_15 cw_X13_222 (pX13_countOf_ok G (dk - 1) (by omega) q25) rfl rfl t0 (zG Z) rfl (by simp [cat_i, cat_l, cat_d, cat_rf]) (zF Z (by omega)) (zO Z (by omega) (by decide)) (zM _) Z.2.1 Z.2.1 rfl rfl ?_
    replace hf := nn_i hf
    obtain ⟨a23, rfl, hf⟩ := hf
    replace hf := tg_i hf
    obtain ⟨t27, hf⟩ := hf
    replace hf := ix_i hf
    obtain ⟨i28, hf⟩ := hf
    refine J_iastore Z.1 dX13_readRest_18 t27 i28 ?_
    refine J_th (fun h29 eh29 => ?_)
    replace hf := lt_i hf h29 eh29
    refine J_goto Z.1 248 dX13_readRest_19 (by decide) ?_
    cases hf
    exact J_vret Z.1 Z.2.2.2.2.2 dX13_readRest_248
theorem dX13_isRow_0 : decode cX13_isRow 0 = .ok (.iload_n 0, 1) := by decide +kernel
theorem dX13_isRow_1 : decode cX13_isRow 1 = .ok (.i2l, 1) := by decide +kernel
theorem dX13_isRow_2 : decode cX13_isRow 2 = .ok (.lconst 0, 1) := by decide +kernel
theorem dX13_isRow_3 : decode cX13_isRow 3 = .ok (.ldc2_w 275, 3) := by decide +kernel
theorem dX13_isRow_6 : decode cX13_isRow 6 = .ok (.invokestatic 104, 3) := by decide +kernel
theorem dX13_isRow_9 : decode cX13_isRow 9 = .ok (.ireturn, 1) := by decide +kernel
def pX13_isRow (p0 : Int32) : Int32 := (pX13_isIn (Int32.toInt64 p0) 0 5)
set_option maxRecDepth 10000 in
set_option maxHeartbeats 4000000 in
theorem pX13_isRow_ok (G : Gx) (dk : Nat) (hK : 1 ≤ dk) (g : MT) (h0 : CT) (p0 : Int32) : Ctr G dk yX13_isRow cX13_isRow 1 (some .boolean) [.int p0] g h0 (some (.int (pX13_isRow p0))) g h0 := by
  obtain ⟨r0, hf⟩ : ∃ z, pX13_isRow p0 = z := ⟨_, rfl⟩
  rw [hf]
  refine Ctr.ofZ (lv := [(0, .int p0)]) (by decide +kernel) (by simp [cat_i, cat_l, cat_d, cat_rf]) rfl fun X Z => ?_
  unfold pX13_isRow at hf
  refine J_iload_n Z.1 0 dX13_isRow_0 rfl rfl ?_
  refine J_i2l Z.1 dX13_isRow_1 ?_
  refine J_lconst Z.1 (v := 0) (by decide) dX13_isRow_2 ?_
  refine J_ldc2 Z.1 q_1749 dX13_isRow_3 ?_
  refine J_callS (as := [.long (Int32.toInt64 p0), .long 0, .long 5]) (rest := []) (sy := [.int (pX13_isIn (Int32.toInt64 p0) 0 5)]) Z.1 dX13_isRow_6 cw_X13_104 (pX13_isIn_ok G (dk - 1) (by omega) g h0 (Int32.toInt64 p0) 0 5) (zG Z) rfl (by decide) (zF Z (by omega)) (zO Z (by omega) (by decide)) (zM _) Z.2.1 Z.2.1 rfl rfl ?_
  cases hf
  exact J_zret Z.1 Z.2.2.2.2.2 (z_n (pX13_isIn_z (Int32.toInt64 p0) 0 5)) dX13_isRow_9
theorem pX13_isRow_z (p0 : Int32) : is01 (pX13_isRow p0) := by
  unfold pX13_isRow
  (try split) <;> (try split) <;> (try split) <;> (try split) <;> (try split) <;> (try split) <;> (try split) <;> (try split) <;> first | exact Or.inl rfl | exact Or.inr rfl | exact pX13_isIn_z _ _ _
theorem dX13_isElement_0 : decode cX13_isElement 0 = .ok (.iload_n 0, 1) := by decide +kernel
theorem dX13_isElement_1 : decode cX13_isElement 1 = .ok (.i2l, 1) := by decide +kernel
theorem dX13_isElement_2 : decode cX13_isElement 2 = .ok (.lconst 0, 1) := by decide +kernel
theorem dX13_isElement_3 : decode cX13_isElement 3 = .ok (.ldc2_w 277, 3) := by decide +kernel
theorem dX13_isElement_6 : decode cX13_isElement 6 = .ok (.invokestatic 104, 3) := by decide +kernel
theorem dX13_isElement_9 : decode cX13_isElement 9 = .ok (.ireturn, 1) := by decide +kernel
def pX13_isElement (p0 : Int32) : Int32 := (pX13_isIn (Int32.toInt64 p0) 0 15)
set_option maxRecDepth 10000 in
set_option maxHeartbeats 4000000 in
theorem pX13_isElement_ok (G : Gx) (dk : Nat) (hK : 1 ≤ dk) (g : MT) (h0 : CT) (p0 : Int32) : Ctr G dk yX13_isElement cX13_isElement 1 (some .boolean) [.int p0] g h0 (some (.int (pX13_isElement p0))) g h0 := by
  obtain ⟨r0, hf⟩ : ∃ z, pX13_isElement p0 = z := ⟨_, rfl⟩
  rw [hf]
  refine Ctr.ofZ (lv := [(0, .int p0)]) (by decide +kernel) (by simp [cat_i, cat_l, cat_d, cat_rf]) rfl fun X Z => ?_
  unfold pX13_isElement at hf
  refine J_iload_n Z.1 0 dX13_isElement_0 rfl rfl ?_
  refine J_i2l Z.1 dX13_isElement_1 ?_
  refine J_lconst Z.1 (v := 0) (by decide) dX13_isElement_2 ?_
  refine J_ldc2 Z.1 q_1760 dX13_isElement_3 ?_
  refine J_callS (as := [.long (Int32.toInt64 p0), .long 0, .long 15]) (rest := []) (sy := [.int (pX13_isIn (Int32.toInt64 p0) 0 15)]) Z.1 dX13_isElement_6 cw_X13_104 (pX13_isIn_ok G (dk - 1) (by omega) g h0 (Int32.toInt64 p0) 0 15) (zG Z) rfl (by decide) (zF Z (by omega)) (zO Z (by omega) (by decide)) (zM _) Z.2.1 Z.2.1 rfl rfl ?_
  cases hf
  exact J_zret Z.1 Z.2.2.2.2.2 (z_n (pX13_isIn_z (Int32.toInt64 p0) 0 15)) dX13_isElement_9
theorem pX13_isElement_z (p0 : Int32) : is01 (pX13_isElement p0) := by
  unfold pX13_isElement
  (try split) <;> (try split) <;> (try split) <;> (try split) <;> (try split) <;> (try split) <;> (try split) <;> (try split) <;> first | exact Or.inl rfl | exact Or.inr rfl | exact pX13_isIn_z _ _ _
theorem dX13_isScalar_0 : decode cX13_isScalar 0 = .ok (.iload_n 0, 1) := by decide +kernel
theorem dX13_isScalar_1 : decode cX13_isScalar 1 = .ok (.i2l, 1) := by decide +kernel
theorem dX13_isScalar_2 : decode cX13_isScalar 2 = .ok (.lconst 0, 1) := by decide +kernel
theorem dX13_isScalar_3 : decode cX13_isScalar 3 = .ok (.ldc2_w 102, 3) := by decide +kernel
theorem dX13_isScalar_6 : decode cX13_isScalar 6 = .ok (.invokestatic 104, 3) := by decide +kernel
theorem dX13_isScalar_9 : decode cX13_isScalar 9 = .ok (.ireturn, 1) := by decide +kernel
def pX13_isScalar (p0 : Int32) : Int32 := (pX13_isIn (Int32.toInt64 p0) 0 3)
set_option maxRecDepth 10000 in
set_option maxHeartbeats 4000000 in
theorem pX13_isScalar_ok (G : Gx) (dk : Nat) (hK : 1 ≤ dk) (g : MT) (h0 : CT) (p0 : Int32) : Ctr G dk yX13_isScalar cX13_isScalar 1 (some .boolean) [.int p0] g h0 (some (.int (pX13_isScalar p0))) g h0 := by
  obtain ⟨r0, hf⟩ : ∃ z, pX13_isScalar p0 = z := ⟨_, rfl⟩
  rw [hf]
  refine Ctr.ofZ (lv := [(0, .int p0)]) (by decide +kernel) (by simp [cat_i, cat_l, cat_d, cat_rf]) rfl fun X Z => ?_
  unfold pX13_isScalar at hf
  refine J_iload_n Z.1 0 dX13_isScalar_0 rfl rfl ?_
  refine J_i2l Z.1 dX13_isScalar_1 ?_
  refine J_lconst Z.1 (v := 0) (by decide) dX13_isScalar_2 ?_
  refine J_ldc2 Z.1 q_1782 dX13_isScalar_3 ?_
  refine J_callS (as := [.long (Int32.toInt64 p0), .long 0, .long 3]) (rest := []) (sy := [.int (pX13_isIn (Int32.toInt64 p0) 0 3)]) Z.1 dX13_isScalar_6 cw_X13_104 (pX13_isIn_ok G (dk - 1) (by omega) g h0 (Int32.toInt64 p0) 0 3) (zG Z) rfl (by decide) (zF Z (by omega)) (zO Z (by omega) (by decide)) (zM _) Z.2.1 Z.2.1 rfl rfl ?_
  cases hf
  exact J_zret Z.1 Z.2.2.2.2.2 (z_n (pX13_isIn_z (Int32.toInt64 p0) 0 3)) dX13_isScalar_9
theorem pX13_isScalar_z (p0 : Int32) : is01 (pX13_isScalar p0) := by
  unfold pX13_isScalar
  (try split) <;> (try split) <;> (try split) <;> (try split) <;> (try split) <;> (try split) <;> (try split) <;> (try split) <;> first | exact Or.inl rfl | exact Or.inr rfl | exact pX13_isIn_z _ _ _
theorem dX13_isWordAt_0 : decode cX13_isWordAt 0 = .ok (.iload_n 0, 1) := by decide +kernel
theorem dX13_isWordAt_1 : decode cX13_isWordAt 1 = .ok (.i2l, 1) := by decide +kernel
theorem dX13_isWordAt_2 : decode cX13_isWordAt 2 = .ok (.lconst 0, 1) := by decide +kernel
theorem dX13_isWordAt_3 : decode cX13_isWordAt 3 = .ok (.ldc2_w 279, 3) := by decide +kernel
theorem dX13_isWordAt_6 : decode cX13_isWordAt 6 = .ok (.invokestatic 104, 3) := by decide +kernel
theorem dX13_isWordAt_9 : decode cX13_isWordAt 9 = .ok (.ireturn, 1) := by decide +kernel
def pX13_isWordAt (p0 : Int32) : Int32 := (pX13_isIn (Int32.toInt64 p0) 0 63)
set_option maxRecDepth 10000 in
set_option maxHeartbeats 4000000 in
theorem pX13_isWordAt_ok (G : Gx) (dk : Nat) (hK : 1 ≤ dk) (g : MT) (h0 : CT) (p0 : Int32) : Ctr G dk yX13_isWordAt cX13_isWordAt 1 (some .boolean) [.int p0] g h0 (some (.int (pX13_isWordAt p0))) g h0 := by
  obtain ⟨r0, hf⟩ : ∃ z, pX13_isWordAt p0 = z := ⟨_, rfl⟩
  rw [hf]
  refine Ctr.ofZ (lv := [(0, .int p0)]) (by decide +kernel) (by simp [cat_i, cat_l, cat_d, cat_rf]) rfl fun X Z => ?_
  unfold pX13_isWordAt at hf
  refine J_iload_n Z.1 0 dX13_isWordAt_0 rfl rfl ?_
  refine J_i2l Z.1 dX13_isWordAt_1 ?_
  refine J_lconst Z.1 (v := 0) (by decide) dX13_isWordAt_2 ?_
  refine J_ldc2 Z.1 q_1790 dX13_isWordAt_3 ?_
  refine J_callS (as := [.long (Int32.toInt64 p0), .long 0, .long 63]) (rest := []) (sy := [.int (pX13_isIn (Int32.toInt64 p0) 0 63)]) Z.1 dX13_isWordAt_6 cw_X13_104 (pX13_isIn_ok G (dk - 1) (by omega) g h0 (Int32.toInt64 p0) 0 63) (zG Z) rfl (by decide) (zF Z (by omega)) (zO Z (by omega) (by decide)) (zM _) Z.2.1 Z.2.1 rfl rfl ?_
  cases hf
  exact J_zret Z.1 Z.2.2.2.2.2 (z_n (pX13_isIn_z (Int32.toInt64 p0) 0 63)) dX13_isWordAt_9
theorem pX13_isWordAt_z (p0 : Int32) : is01 (pX13_isWordAt p0) := by
  unfold pX13_isWordAt
  (try split) <;> (try split) <;> (try split) <;> (try split) <;> (try split) <;> (try split) <;> (try split) <;> (try split) <;> first | exact Or.inl rfl | exact Or.inr rfl | exact pX13_isIn_z _ _ _
theorem dX13_isCode_0 : decode cX13_isCode 0 = .ok (.iload_n 1, 1) := by decide +kernel
theorem dX13_isCode_1 : decode cX13_isCode 1 = .ok (.i2l, 1) := by decide +kernel
theorem dX13_isCode_2 : decode cX13_isCode 2 = .ok (.lconst 0, 1) := by decide +kernel
theorem dX13_isCode_3 : decode cX13_isCode 3 = .ok (.aload_n 0, 1) := by decide +kernel
theorem dX13_isCode_4 : decode cX13_isCode 4 = .ok (.getfield 31, 3) := by decide +kernel
theorem dX13_isCode_7 : decode cX13_isCode 7 = .ok (.iconst 5, 1) := by decide +kernel
theorem dX13_isCode_8 : decode cX13_isCode 8 = .ok (.iaload, 1) := by decide +kernel
theorem dX13_isCode_9 : decode cX13_isCode 9 = .ok (.iconst 1, 1) := by decide +kernel
theorem dX13_isCode_10 : decode cX13_isCode 10 = .ok (.isub, 1) := by decide +kernel
theorem dX13_isCode_11 : decode cX13_isCode 11 = .ok (.i2l, 1) := by decide +kernel
theorem dX13_isCode_12 : decode cX13_isCode 12 = .ok (.invokestatic 104, 3) := by decide +kernel
theorem dX13_isCode_15 : decode cX13_isCode 15 = .ok (.ireturn, 1) := by decide +kernel
def pX13_isCode (g : MT) (h : CT) (this : Nat) (p1 : Int32) : Option Int32 := tg g this 12 (lt (hR h this 19) fun r1 => (nn r1 fun a1 => (tg g a1 20 (ix (gL g a1) 5 (some (pX13_isIn (Int32.toInt64 p1) 0 (Int32.toInt64 ((hI h a1 (Int32.toNatClampNeg 5)) - 1))))))))
set_option maxRecDepth 10000 in
set_option maxHeartbeats 4000000 in
theorem pX13_isCode_ok (G : Gx) (dk : Nat) (hK : 1 ≤ dk) {g : MT} {h : CT} {this : Nat} {p1 : Int32} {r0 : Int32} (hf : pX13_isCode g h this p1 = some r0) : Ctr G dk yX13_isCode cX13_isCode 2 (some .boolean) [va_rf (some this), .int p1] g h (some (.int r0)) g h := by
  refine Ctr.ofZ (lv := [(0, va_rf (some this)), (1, .int p1)]) (by decide +kernel) (by simp [cat_i, cat_l, cat_d, cat_rf]) rfl fun X Z => ?_
  unfold pX13_isCode at hf
  replace hf := tg_i hf
  obtain ⟨t0, hf⟩ := hf
  refine J_iload_n Z.1 1 dX13_isCode_0 rfl rfl ?_
  refine J_i2l Z.1 dX13_isCode_1 ?_
  refine J_lconst Z.1 (v := 0) (by decide) dX13_isCode_2 ?_
  refine J_aload_n Z.1 0 dX13_isCode_3 rfl rfl ?_
  refine J_get (v := va_rf (hR h this 19)) Z.1 dX13_isCode_4 fl_X13_31 t0 rfl ?_
  refine J_tr (fun r1 er1 => ?_)
  replace hf := lt_i hf r1 er1
  refine J_iconst Z.1 (v := 5) (by decide) dX13_isCode_7 ?_
  replace hf := nn_i hf
  obtain ⟨a1, rfl, hf⟩ := hf
  replace hf := tg_i hf
  obtain ⟨t2, hf⟩ := hf
  replace hf := ix_i hf
  obtain ⟨i3, hf⟩ := hf
  refine J_iaload Z.1 dX13_isCode_8 t2 i3 ?_
  refine J_iconst Z.1 (v := 1) (by decide) dX13_isCode_9 ?_
  refine J_isub Z.1 dX13_isCode_10 ?_
  refine J_i2l Z.1 dX13_isCode_11 ?_
  refine J_callS (as := [.long (Int32.toInt64 p1), .long 0, .long (Int32.toInt64 ((hI h a1 (Int32.toNatClampNeg 5)) - 1))]) (rest := []) (sy := [.int (pX13_isIn (Int32.toInt64 p1) 0 (Int32.toInt64 ((hI h a1 (Int32.toNatClampNeg 5)) - 1)))]) Z.1 dX13_isCode_12 cw_X13_104 (pX13_isIn_ok G (dk - 1) (by omega) g h (Int32.toInt64 p1) 0 (Int32.toInt64 ((hI h a1 (Int32.toNatClampNeg 5)) - 1))) (zG Z) rfl (by decide) (zF Z (by omega)) (zO Z (by omega) (by decide)) (zM _) Z.2.1 Z.2.1 rfl rfl ?_
  cases hf
  exact J_zret Z.1 Z.2.2.2.2.2 (z_n (pX13_isIn_z (Int32.toInt64 p1) 0 (Int32.toInt64 ((hI h a1 (Int32.toNatClampNeg 5)) - 1)))) dX13_isCode_15
theorem dX13_many_0 : decode cX13_many 0 = .ok (.aload_n 0, 1) := by decide +kernel
theorem dX13_many_1 : decode cX13_many 1 = .ok (.iconst 0, 1) := by decide +kernel
theorem dX13_many_2 : decode cX13_many 2 = .ok (.putfield 71, 3) := by decide +kernel
theorem dX13_many_5 : decode cX13_many 5 = .ok (.aload_n 0, 1) := by decide +kernel
theorem dX13_many_6 : decode cX13_many 6 = .ok (.iconst 0, 1) := by decide +kernel
theorem dX13_many_7 : decode cX13_many 7 = .ok (.putfield 74, 3) := by decide +kernel
theorem dX13_many_10 : decode cX13_many 10 = .ok (.iload_n 1, 1) := by decide +kernel
theorem dX13_many_11 : decode cX13_many 11 = .ok (.i2l, 1) := by decide +kernel
theorem dX13_many_12 : decode cX13_many 12 = .ok (.lconst 0, 1) := by decide +kernel
theorem dX13_many_13 : decode cX13_many 13 = .ok (.ldc2_w 275, 3) := by decide +kernel
theorem dX13_many_16 : decode cX13_many 16 = .ok (.invokestatic 104, 3) := by decide +kernel
theorem dX13_many_19 : decode cX13_many 19 = .ok (.ifCond .ne 9, 3) := by decide +kernel
theorem dX13_many_22 : decode cX13_many 22 = .ok (.aload_n 0, 1) := by decide +kernel
theorem dX13_many_23 : decode cX13_many 23 = .ok (.iconst 5, 1) := by decide +kernel
theorem dX13_many_24 : decode cX13_many 24 = .ok (.invokevirtual 268, 3) := by decide +kernel
theorem dX13_many_27 : decode cX13_many 27 = .ok (.ireturn, 1) := by decide +kernel
theorem dX13_many_28 : decode cX13_many 28 = .ok (.iload_n 1, 1) := by decide +kernel
theorem dX13_many_29 : decode cX13_many 29 = .ok (.iconst 4, 1) := by decide +kernel
theorem dX13_many_30 : decode cX13_many 30 = .ok (.if_icmp .ge 12, 3) := by decide +kernel
theorem dX13_many_33 : decode cX13_many 33 = .ok (.aload_n 0, 1) := by decide +kernel
theorem dX13_many_34 : decode cX13_many 34 = .ok (.getfield 31, 3) := by decide +kernel
theorem dX13_many_37 : decode cX13_many 37 = .ok (.iload_n 1, 1) := by decide +kernel
theorem dX13_many_38 : decode cX13_many 38 = .ok (.iaload, 1) := by decide +kernel
theorem dX13_many_39 : decode cX13_many 39 = .ok (.goto 23, 3) := by decide +kernel
theorem dX13_many_42 : decode cX13_many 42 = .ok (.iload_n 1, 1) := by decide +kernel
theorem dX13_many_43 : decode cX13_many 43 = .ok (.iconst 4, 1) := by decide +kernel
theorem dX13_many_44 : decode cX13_many 44 = .ok (.if_icmp .ne 12, 3) := by decide +kernel
theorem dX13_many_47 : decode cX13_many 47 = .ok (.aload_n 0, 1) := by decide +kernel
theorem dX13_many_48 : decode cX13_many 48 = .ok (.getfield 31, 3) := by decide +kernel
theorem dX13_many_51 : decode cX13_many 51 = .ok (.iconst 5, 1) := by decide +kernel
theorem dX13_many_52 : decode cX13_many 52 = .ok (.iaload, 1) := by decide +kernel
theorem dX13_many_53 : decode cX13_many 53 = .ok (.goto 9, 3) := by decide +kernel
theorem dX13_many_56 : decode cX13_many 56 = .ok (.aload_n 0, 1) := by decide +kernel
theorem dX13_many_57 : decode cX13_many 57 = .ok (.getfield 31, 3) := by decide +kernel
theorem dX13_many_60 : decode cX13_many 60 = .ok (.iconst 4, 1) := by decide +kernel
theorem dX13_many_61 : decode cX13_many 61 = .ok (.iaload, 1) := by decide +kernel
theorem dX13_many_62 : decode cX13_many 62 = .ok (.ireturn, 1) := by decide +kernel
def pX13_many (g : MT) (h : CT) (this : Nat) (p1 : Int32) : Option ((Int32) × CT) := tg g this 12 (lt (sI h this 1 0) fun h1 => (lt (sI h1 this 0 0) fun h2 => (if (pX13_isIn (Int32.toInt64 p1) 0 5) = 0 then bd2 (pX13_refuse g h2 this 5) fun x17 h15 => (some (x17, h15)) else if 4 ≤ p1 then if p1 = 4 then lt (hR h2 this 19) fun r9 => (nn r9 fun a9 => (tg g a9 20 (ix (gL g a9) 5 (some ((hI h2 a9 (Int32.toNatClampNeg 5)), h2))))) else lt (hR h2 this 19) fun r6 => (nn r6 fun a6 => (tg g a6 20 (ix (gL g a6) 4 (some ((hI h2 a6 (Int32.toNatClampNeg 4)), h2))))) else lt (hR h2 this 19) fun r12 => (nn r12 fun a12 => (tg g a12 20 (ix (gL g a12) p1 (some ((hI h2 a12 (Int32.toNatClampNeg p1)), h2))))))))
set_option maxRecDepth 10000 in
set_option maxHeartbeats 4000000 in
theorem pX13_many_ok (G : Gx) (dk : Nat) (hK : 1 ≤ dk) {g : MT} {h h0 : CT} {this : Nat} {p1 : Int32} {r0 : Int32} (hf : pX13_many g h this p1 = some (r0, h0)) : Ctr G dk yX13_many cX13_many 2 (some .int) [va_rf (some this), .int p1] g h (some (.int r0)) g h0 := by
  refine Ctr.ofZ (lv := [(0, va_rf (some this)), (1, .int p1)]) (by decide +kernel) (by simp [cat_i, cat_l, cat_d, cat_rf]) rfl fun X Z => ?_
  unfold pX13_many at hf
  replace hf := tg_i hf
  obtain ⟨t0, hf⟩ := hf
  refine J_aload_n Z.1 0 dX13_many_0 rfl rfl ?_
  refine J_iconst Z.1 (v := 0) (by decide) dX13_many_1 ?_
  refine J_putI Z.1 dX13_many_2 fl_X13_71 (fun q => by cases q) t0 rfl rfl (congrArg Value.int (hI_s _ _ _ _)) ?_
  refine J_th (fun h1 eh1 => ?_)
  replace hf := lt_i hf h1 eh1
  refine J_aload_n Z.1 0 dX13_many_5 rfl rfl ?_
  refine J_iconst Z.1 (v := 0) (by decide) dX13_many_6 ?_
  refine J_putI Z.1 dX13_many_7 fl_X13_74 (fun q => by cases q) t0 rfl rfl (congrArg Value.int (hI_s _ _ _ _)) ?_
  refine J_th (fun h2 eh2 => ?_)
  replace hf := lt_i hf h2 eh2
  refine J_iload_n Z.1 1 dX13_many_10 rfl rfl ?_
  refine J_i2l Z.1 dX13_many_11 ?_
  refine J_lconst Z.1 (v := 0) (by decide) dX13_many_12 ?_
  refine J_ldc2 Z.1 q_1749 dX13_many_13 ?_
  refine J_callS (as := [.long (Int32.toInt64 p1), .long 0, .long 5]) (rest := []) (sy := [.int (pX13_isIn (Int32.toInt64 p1) 0 5)]) Z.1 dX13_many_16 cw_X13_104 (pX13_isIn_ok G (dk - 1) (by omega) g h2 (Int32.toInt64 p1) 0 5) (zG Z) rfl (by decide) (zF Z (by omega)) (zO Z (by omega) (by decide)) (zM _) Z.2.1 Z.2.1 rfl rfl ?_
  refine J_if_ne Z.1 28 dX13_many_19 (by decide) (fun c3 => ?_) (fun c3 => ?_)
  · rw [if_neg c3] at hf
    refine J_iload_n Z.1 1 dX13_many_28 rfl rfl ?_
    refine J_iconst Z.1 (v := 4) (by decide) dX13_many_29 ?_
    refine J_icmp_ge Z.1 42 dX13_many_30 (by decide) (fun c4 => ?_) (fun c4 => ?_)
    · rw [if_pos c4] at hf
      refine J_iload_n Z.1 1 dX13_many_42 rfl rfl ?_
      refine J_iconst Z.1 (v := 4) (by decide) dX13_many_43 ?_
      refine J_icmp_ne Z.1 56 dX13_many_44 (by decide) (fun c5 => ?_) (fun c5 => ?_)
      · rw [if_neg c5] at hf
        refine J_aload_n Z.1 0 dX13_many_56 rfl rfl ?_
        refine J_get (v := va_rf (hR h2 this 19)) Z.1 dX13_many_57 fl_X13_31 t0 rfl ?_
        refine J_tr (fun r6 er6 => ?_)
        replace hf := lt_i hf r6 er6
        refine J_iconst Z.1 (v := 4) (by decide) dX13_many_60 ?_
        replace hf := nn_i hf
        obtain ⟨a6, rfl, hf⟩ := hf
        replace hf := tg_i hf
        obtain ⟨t7, hf⟩ := hf
        replace hf := ix_i hf
        obtain ⟨i8, hf⟩ := hf
        refine J_iaload Z.1 dX13_many_61 t7 i8 ?_
        cases hf
        exact J_iret Z.1 Z.2.2.2.2.2 dX13_many_62
      · rw [if_pos c5] at hf
        refine J_aload_n Z.1 0 dX13_many_47 rfl rfl ?_
        refine J_get (v := va_rf (hR h2 this 19)) Z.1 dX13_many_48 fl_X13_31 t0 rfl ?_
        refine J_tr (fun r9 er9 => ?_)
        replace hf := lt_i hf r9 er9
        refine J_iconst Z.1 (v := 5) (by decide) dX13_many_51 ?_
        replace hf := nn_i hf
        obtain ⟨a9, rfl, hf⟩ := hf
        replace hf := tg_i hf
        obtain ⟨t10, hf⟩ := hf
        replace hf := ix_i hf
        obtain ⟨i11, hf⟩ := hf
        refine J_iaload Z.1 dX13_many_52 t10 i11 ?_
        refine J_goto Z.1 62 dX13_many_53 (by decide) ?_
        cases hf
        exact J_iret Z.1 Z.2.2.2.2.2 dX13_many_62
    · rw [if_neg c4] at hf
      refine J_aload_n Z.1 0 dX13_many_33 rfl rfl ?_
      refine J_get (v := va_rf (hR h2 this 19)) Z.1 dX13_many_34 fl_X13_31 t0 rfl ?_
      refine J_tr (fun r12 er12 => ?_)
      replace hf := lt_i hf r12 er12
      refine J_iload_n Z.1 1 dX13_many_37 rfl rfl ?_
      replace hf := nn_i hf
      obtain ⟨a12, rfl, hf⟩ := hf
      replace hf := tg_i hf
      obtain ⟨t13, hf⟩ := hf
      replace hf := ix_i hf
      obtain ⟨i14, hf⟩ := hf
      refine J_iaload Z.1 dX13_many_38 t13 i14 ?_
      refine J_goto Z.1 62 dX13_many_39 (by decide) ?_
      cases hf
      exact J_iret Z.1 Z.2.2.2.2.2 dX13_many_62
  · rw [if_pos c3] at hf
    refine J_aload_n Z.1 0 dX13_many_22 rfl rfl ?_
    refine J_iconst Z.1 (v := 5) (by decide) dX13_many_23 ?_
    replace hf := bd2_i hf
    obtain ⟨x17, h15, q16, hf⟩ := hf
    refine J_callV (ci := 11) (as := [.int 5]) (rest := []) (sy := [.int x17]) Z.1 dX13_many_24 cw_X13_268 (pX13_refuse_ok G (dk - 1) (by omega) q16) rfl rfl t0 (zG Z) rfl (by decide) (zF Z (by omega)) (zO Z (by omega) (by decide)) (zM _) Z.2.1 Z.2.1 rfl rfl ?_
    cases hf
    exact J_iret Z.1 Z.2.2.2.2.2 dX13_many_27
theorem dX13_element_0 : decode cX13_element 0 = .ok (.aload_n 0, 1) := by decide +kernel
theorem dX13_element_1 : decode cX13_element 1 = .ok (.iconst 0, 1) := by decide +kernel
theorem dX13_element_2 : decode cX13_element 2 = .ok (.putfield 71, 3) := by decide +kernel
theorem dX13_element_5 : decode cX13_element 5 = .ok (.aload_n 0, 1) := by decide +kernel
theorem dX13_element_6 : decode cX13_element 6 = .ok (.iconst 0, 1) := by decide +kernel
theorem dX13_element_7 : decode cX13_element 7 = .ok (.putfield 74, 3) := by decide +kernel
theorem dX13_element_10 : decode cX13_element 10 = .ok (.iload_n 1, 1) := by decide +kernel
theorem dX13_element_11 : decode cX13_element 11 = .ok (.invokestatic 281, 3) := by decide +kernel
theorem dX13_element_14 : decode cX13_element 14 = .ok (.ifCond .eq 10, 3) := by decide +kernel
theorem dX13_element_17 : decode cX13_element 17 = .ok (.iload_n 2, 1) := by decide +kernel
theorem dX13_element_18 : decode cX13_element 18 = .ok (.invokestatic 284, 3) := by decide +kernel
theorem dX13_element_21 : decode cX13_element 21 = .ok (.ifCond .ne 9, 3) := by decide +kernel
theorem dX13_element_24 : decode cX13_element 24 = .ok (.aload_n 0, 1) := by decide +kernel
theorem dX13_element_25 : decode cX13_element 25 = .ok (.iconst 2, 1) := by decide +kernel
theorem dX13_element_26 : decode cX13_element 26 = .ok (.invokevirtual 268, 3) := by decide +kernel
theorem dX13_element_29 : decode cX13_element 29 = .ok (.ireturn, 1) := by decide +kernel
theorem dX13_element_30 : decode cX13_element 30 = .ok (.aload_n 0, 1) := by decide +kernel
theorem dX13_element_31 : decode cX13_element 31 = .ok (.getfield 31, 3) := by decide +kernel
theorem dX13_element_34 : decode cX13_element 34 = .ok (.iconst 4, 1) := by decide +kernel
theorem dX13_element_35 : decode cX13_element 35 = .ok (.iaload, 1) := by decide +kernel
theorem dX13_element_36 : decode cX13_element 36 = .ok (.iload_n 1, 1) := by decide +kernel
theorem dX13_element_37 : decode cX13_element 37 = .ok (.invokestatic 287, 3) := by decide +kernel
theorem dX13_element_40 : decode cX13_element 40 = .ok (.ifCond .eq 21, 3) := by decide +kernel
theorem dX13_element_43 : decode cX13_element 43 = .ok (.aload_n 0, 1) := by decide +kernel
theorem dX13_element_44 : decode cX13_element 44 = .ok (.aload_n 0, 1) := by decide +kernel
theorem dX13_element_45 : decode cX13_element 45 = .ok (.getfield 34, 3) := by decide +kernel
theorem dX13_element_48 : decode cX13_element 48 = .ok (.bipush 16, 2) := by decide +kernel
theorem dX13_element_50 : decode cX13_element 50 = .ok (.iload_n 1, 1) := by decide +kernel
theorem dX13_element_51 : decode cX13_element 51 = .ok (.imul, 1) := by decide +kernel
theorem dX13_element_52 : decode cX13_element 52 = .ok (.iload_n 2, 1) := by decide +kernel
theorem dX13_element_53 : decode cX13_element 53 = .ok (.iadd, 1) := by decide +kernel
theorem dX13_element_54 : decode cX13_element 54 = .ok (.daload, 1) := by decide +kernel
theorem dX13_element_55 : decode cX13_element 55 = .ok (.invokevirtual 291, 3) := by decide +kernel
theorem dX13_element_58 : decode cX13_element 58 = .ok (.goto 8, 3) := by decide +kernel
theorem dX13_element_61 : decode cX13_element 61 = .ok (.aload_n 0, 1) := by decide +kernel
theorem dX13_element_62 : decode cX13_element 62 = .ok (.iconst 3, 1) := by decide +kernel
theorem dX13_element_63 : decode cX13_element 63 = .ok (.invokevirtual 268, 3) := by decide +kernel
theorem dX13_element_66 : decode cX13_element 66 = .ok (.ireturn, 1) := by decide +kernel
def pX13_element_b24 (g : MT) (this : Nat) (p1 : Int32) (p2 : Int32) (h : CT) : Option ((Int32) × CT) := bd2 (pX13_refuse g h this 2) fun x3 h1 => (some (x3, h1))
set_option maxRecDepth 10000 in
set_option maxHeartbeats 4000000 in
theorem pX13_element_b24_ok {X : Cx} {G : Gx} {dk : Nat} {g : MT} {r0 : Int32} {h0 : CT} {this : Nat} {p1 : Int32} {p2 : Int32} (Z : Zx X G cX13_element RX13 3 dk (some .int) (some (.int r0)) g h0) (hK : 2 ≤ dk) (t0 : gT g this = 12) (h : CT) (hf : pX13_element_b24 g this p1 p2 h = some (r0, h0)) : J X g h 24 [(0, va_rf (some this))] [] := by
  unfold pX13_element_b24 at hf
  refine J_aload_n Z.1 0 dX13_element_24 rfl rfl ?_
  refine J_iconst Z.1 (v := 2) (by decide) dX13_element_25 ?_
  replace hf := bd2_i hf
  obtain ⟨x3, h1, q2, hf⟩ := hf
  refine J_callV (ci := 11) (as := [.int 2]) (rest := []) (sy := [.int x3]) Z.1 dX13_element_26 cw_X13_268 (pX13_refuse_ok G (dk - 1) (by omega) q2) rfl rfl t0 (zG Z) rfl (by decide) (zF Z (by omega)) (zO Z (by omega) (by decide)) (zM _) Z.2.1 Z.2.1 rfl rfl ?_
  cases hf
  exact J_iret Z.1 Z.2.2.2.2.2 dX13_element_29
def pX13_element (g : MT) (h : CT) (this : Nat) (p1 : Int32) (p2 : Int32) : Option ((Int32) × CT) := tg g this 12 (lt (sI h this 1 0) fun h1 => (lt (sI h1 this 0 0) fun h2 => (if (pX13_isRow p1) = 0 then pX13_element_b24 g this p1 p2  h2 else if (pX13_isElement p2) = 0 then pX13_element_b24 g this p1 p2  h2 else lt (hR h2 this 19) fun r5 => (nn r5 fun a5 => (tg g a5 20 (ix (gL g a5) 4 (if (pX13_has (hI h2 a5 (Int32.toNatClampNeg 4)) p1) = 0 then bd2 (pX13_refuse g h2 this 3) fun x11 h9 => (some (x11, h9)) else lt (hR h2 this 20) fun r12 => (nn r12 fun a12 => (tg g a12 22 (ix (gL g a12) ((16 * p1) + p2) (bd2 (pX13_tells g h2 this (hD h2 a12 (Int32.toNatClampNeg ((16 * p1) + p2)))) fun x17 h15 => (some (x17, h15)))))))))))))
set_option maxRecDepth 10000 in
set_option maxHeartbeats 4000000 in
theorem pX13_element_ok (G : Gx) (dk : Nat) (hK : 2 ≤ dk) {g : MT} {h h0 : CT} {this : Nat} {p1 : Int32} {p2 : Int32} {r0 : Int32} (hf : pX13_element g h this p1 p2 = some (r0, h0)) : Ctr G dk yX13_element cX13_element 3 (some .int) [va_rf (some this), .int p1, .int p2] g h (some (.int r0)) g h0 := by
  refine Ctr.ofZ (lv := [(0, va_rf (some this)), (1, .int p1), (2, .int p2)]) (by decide +kernel) (by simp [cat_i, cat_l, cat_d, cat_rf]) rfl fun X Z => ?_
  unfold pX13_element at hf
  replace hf := tg_i hf
  obtain ⟨t0, hf⟩ := hf
  refine J_aload_n Z.1 0 dX13_element_0 rfl rfl ?_
  refine J_iconst Z.1 (v := 0) (by decide) dX13_element_1 ?_
  refine J_putI Z.1 dX13_element_2 fl_X13_71 (fun q => by cases q) t0 rfl rfl (congrArg Value.int (hI_s _ _ _ _)) ?_
  refine J_th (fun h1 eh1 => ?_)
  replace hf := lt_i hf h1 eh1
  refine J_aload_n Z.1 0 dX13_element_5 rfl rfl ?_
  refine J_iconst Z.1 (v := 0) (by decide) dX13_element_6 ?_
  refine J_putI Z.1 dX13_element_7 fl_X13_74 (fun q => by cases q) t0 rfl rfl (congrArg Value.int (hI_s _ _ _ _)) ?_
  refine J_th (fun h2 eh2 => ?_)
  replace hf := lt_i hf h2 eh2
  refine J_iload_n Z.1 1 dX13_element_10 rfl rfl ?_
  refine J_callS (as := [.int p1]) (rest := []) (sy := [.int (pX13_isRow p1)]) Z.1 dX13_element_11 cw_X13_281 (pX13_isRow_ok G (dk - 1) (by omega) g h2 p1) (zG Z) rfl (by decide) (zF Z (by omega)) (zO Z (by omega) (by decide)) (zM _) Z.2.1 Z.2.1 rfl rfl ?_
  refine J_if_eq Z.1 24 dX13_element_14 (by decide) (fun c3 => ?_) (fun c3 => ?_)
  · rw [if_pos c3] at hf
    refine J_lv [0] rfl ?_
    exact pX13_element_b24_ok Z hK t0  _ hf
  · rw [if_neg c3] at hf
    refine J_iload_n Z.1 2 dX13_element_17 rfl rfl ?_
    refine J_callS (as := [.int p2]) (rest := []) (sy := [.int (pX13_isElement p2)]) Z.1 dX13_element_18 cw_X13_284 (pX13_isElement_ok G (dk - 1) (by omega) g h2 p2) (zG Z) rfl (by decide) (zF Z (by omega)) (zO Z (by omega) (by decide)) (zM _) Z.2.1 Z.2.1 rfl rfl ?_
    refine J_if_ne Z.1 30 dX13_element_21 (by decide) (fun c4 => ?_) (fun c4 => ?_)
    · rw [if_neg c4] at hf
      refine J_aload_n Z.1 0 dX13_element_30 rfl rfl ?_
      refine J_get (v := va_rf (hR h2 this 19)) Z.1 dX13_element_31 fl_X13_31 t0 rfl ?_
      refine J_tr (fun r5 er5 => ?_)
      replace hf := lt_i hf r5 er5
      refine J_iconst Z.1 (v := 4) (by decide) dX13_element_34 ?_
      replace hf := nn_i hf
      obtain ⟨a5, rfl, hf⟩ := hf
      replace hf := tg_i hf
      obtain ⟨t6, hf⟩ := hf
      replace hf := ix_i hf
      obtain ⟨i7, hf⟩ := hf
      refine J_iaload Z.1 dX13_element_35 t6 i7 ?_
      refine J_iload_n Z.1 1 dX13_element_36 rfl rfl ?_
      refine J_callS (as := [.int (hI h2 a5 (Int32.toNatClampNeg 4)), .int p1]) (rest := []) (sy := [.int (pX13_has (hI h2 a5 (Int32.toNatClampNeg 4)) p1)]) Z.1 dX13_element_37 cw_X13_287 (pX13_has_ok G (dk - 1) (by omega) g h2 (hI h2 a5 (Int32.toNatClampNeg 4)) p1) (zG Z) rfl (by decide) (zF Z (by omega)) (zO Z (by omega) (by decide)) (zM _) Z.2.1 Z.2.1 rfl rfl ?_
      refine J_if_eq Z.1 61 dX13_element_40 (by decide) (fun c8 => ?_) (fun c8 => ?_)
      · rw [if_pos c8] at hf
        refine J_aload_n Z.1 0 dX13_element_61 rfl rfl ?_
        refine J_iconst Z.1 (v := 3) (by decide) dX13_element_62 ?_
        replace hf := bd2_i hf
        obtain ⟨x11, h9, q10, hf⟩ := hf
        refine J_callV (ci := 11) (as := [.int 3]) (rest := []) (sy := [.int x11]) Z.1 dX13_element_63 cw_X13_268 (pX13_refuse_ok G (dk - 1) (by omega) q10) rfl rfl t0 (zG Z) rfl (by decide) (zF Z (by omega)) (zO Z (by omega) (by decide)) (zM _) Z.2.1 Z.2.1 rfl rfl ?_
        cases hf
        exact J_iret Z.1 Z.2.2.2.2.2 dX13_element_66
      · rw [if_neg c8] at hf
        refine J_aload_n Z.1 0 dX13_element_43 rfl rfl ?_
        refine J_aload_n Z.1 0 dX13_element_44 rfl rfl ?_
        refine J_get (v := va_rf (hR h2 this 20)) Z.1 dX13_element_45 fl_X13_34 t0 rfl ?_
        refine J_tr (fun r12 er12 => ?_)
        replace hf := lt_i hf r12 er12
        refine J_bipush Z.1 (v := 16) (by decide) dX13_element_48 ?_
        refine J_iload_n Z.1 1 dX13_element_50 rfl rfl ?_
        refine J_imul Z.1 dX13_element_51 ?_
        refine J_iload_n Z.1 2 dX13_element_52 rfl rfl ?_
        refine J_iadd Z.1 dX13_element_53 ?_
        replace hf := nn_i hf
        obtain ⟨a12, rfl, hf⟩ := hf
        replace hf := tg_i hf
        obtain ⟨t13, hf⟩ := hf
        replace hf := ix_i hf
        obtain ⟨i14, hf⟩ := hf
        refine J_daload Z.1 dX13_element_54 t13 i14 ?_
        replace hf := bd2_i hf
        obtain ⟨x17, h15, q16, hf⟩ := hf
        refine J_callV (ci := 11) (as := [.double (hD h2 a12 (Int32.toNatClampNeg ((16 * p1) + p2)))]) (rest := []) (sy := [.int x17]) Z.1 dX13_element_55 cw_X13_291 (pX13_tells_ok G (dk - 1) (by omega) q16) rfl rfl t0 (zG Z) rfl (by decide) (zF Z (by omega)) (zO Z (by omega) (by decide)) (zM _) Z.2.1 Z.2.1 rfl rfl ?_
        refine J_goto Z.1 66 dX13_element_58 (by decide) ?_
        cases hf
        exact J_iret Z.1 Z.2.2.2.2.2 dX13_element_66
    · rw [if_pos c4] at hf
      refine J_lv [0] rfl ?_
      exact pX13_element_b24_ok Z hK t0  _ hf
theorem dX13_scalar_0 : decode cX13_scalar 0 = .ok (.aload_n 0, 1) := by decide +kernel
theorem dX13_scalar_1 : decode cX13_scalar 1 = .ok (.iconst 0, 1) := by decide +kernel
theorem dX13_scalar_2 : decode cX13_scalar 2 = .ok (.putfield 71, 3) := by decide +kernel
theorem dX13_scalar_5 : decode cX13_scalar 5 = .ok (.aload_n 0, 1) := by decide +kernel
theorem dX13_scalar_6 : decode cX13_scalar 6 = .ok (.iconst 0, 1) := by decide +kernel
theorem dX13_scalar_7 : decode cX13_scalar 7 = .ok (.putfield 74, 3) := by decide +kernel
theorem dX13_scalar_10 : decode cX13_scalar 10 = .ok (.iload_n 1, 1) := by decide +kernel
theorem dX13_scalar_11 : decode cX13_scalar 11 = .ok (.invokestatic 294, 3) := by decide +kernel
theorem dX13_scalar_14 : decode cX13_scalar 14 = .ok (.ifCond .eq 19, 3) := by decide +kernel
theorem dX13_scalar_17 : decode cX13_scalar 17 = .ok (.aload_n 0, 1) := by decide +kernel
theorem dX13_scalar_18 : decode cX13_scalar 18 = .ok (.aload_n 0, 1) := by decide +kernel
theorem dX13_scalar_19 : decode cX13_scalar 19 = .ok (.getfield 34, 3) := by decide +kernel
theorem dX13_scalar_22 : decode cX13_scalar 22 = .ok (.bipush 96, 2) := by decide +kernel
theorem dX13_scalar_24 : decode cX13_scalar 24 = .ok (.iload_n 1, 1) := by decide +kernel
theorem dX13_scalar_25 : decode cX13_scalar 25 = .ok (.iadd, 1) := by decide +kernel
theorem dX13_scalar_26 : decode cX13_scalar 26 = .ok (.daload, 1) := by decide +kernel
theorem dX13_scalar_27 : decode cX13_scalar 27 = .ok (.invokevirtual 291, 3) := by decide +kernel
theorem dX13_scalar_30 : decode cX13_scalar 30 = .ok (.goto 8, 3) := by decide +kernel
theorem dX13_scalar_33 : decode cX13_scalar 33 = .ok (.aload_n 0, 1) := by decide +kernel
theorem dX13_scalar_34 : decode cX13_scalar 34 = .ok (.iconst 2, 1) := by decide +kernel
theorem dX13_scalar_35 : decode cX13_scalar 35 = .ok (.invokevirtual 268, 3) := by decide +kernel
theorem dX13_scalar_38 : decode cX13_scalar 38 = .ok (.ireturn, 1) := by decide +kernel
def pX13_scalar (g : MT) (h : CT) (this : Nat) (p1 : Int32) : Option ((Int32) × CT) := tg g this 12 (lt (sI h this 1 0) fun h1 => (lt (sI h1 this 0 0) fun h2 => (if (pX13_isScalar p1) = 0 then bd2 (pX13_refuse g h2 this 2) fun x6 h4 => (some (x6, h4)) else lt (hR h2 this 20) fun r7 => (nn r7 fun a7 => (tg g a7 22 (ix (gL g a7) (96 + p1) (bd2 (pX13_tells g h2 this (hD h2 a7 (Int32.toNatClampNeg (96 + p1)))) fun x12 h10 => (some (x12, h10)))))))))
set_option maxRecDepth 10000 in
set_option maxHeartbeats 4000000 in
theorem pX13_scalar_ok (G : Gx) (dk : Nat) (hK : 2 ≤ dk) {g : MT} {h h0 : CT} {this : Nat} {p1 : Int32} {r0 : Int32} (hf : pX13_scalar g h this p1 = some (r0, h0)) : Ctr G dk yX13_scalar cX13_scalar 2 (some .int) [va_rf (some this), .int p1] g h (some (.int r0)) g h0 := by
  refine Ctr.ofZ (lv := [(0, va_rf (some this)), (1, .int p1)]) (by decide +kernel) (by simp [cat_i, cat_l, cat_d, cat_rf]) rfl fun X Z => ?_
  unfold pX13_scalar at hf
  replace hf := tg_i hf
  obtain ⟨t0, hf⟩ := hf
  refine J_aload_n Z.1 0 dX13_scalar_0 rfl rfl ?_
  refine J_iconst Z.1 (v := 0) (by decide) dX13_scalar_1 ?_
  refine J_putI Z.1 dX13_scalar_2 fl_X13_71 (fun q => by cases q) t0 rfl rfl (congrArg Value.int (hI_s _ _ _ _)) ?_
  refine J_th (fun h1 eh1 => ?_)
  replace hf := lt_i hf h1 eh1
  refine J_aload_n Z.1 0 dX13_scalar_5 rfl rfl ?_
  refine J_iconst Z.1 (v := 0) (by decide) dX13_scalar_6 ?_
  refine J_putI Z.1 dX13_scalar_7 fl_X13_74 (fun q => by cases q) t0 rfl rfl (congrArg Value.int (hI_s _ _ _ _)) ?_
  refine J_th (fun h2 eh2 => ?_)
  replace hf := lt_i hf h2 eh2
  refine J_iload_n Z.1 1 dX13_scalar_10 rfl rfl ?_
  refine J_callS (as := [.int p1]) (rest := []) (sy := [.int (pX13_isScalar p1)]) Z.1 dX13_scalar_11 cw_X13_294 (pX13_isScalar_ok G (dk - 1) (by omega) g h2 p1) (zG Z) rfl (by decide) (zF Z (by omega)) (zO Z (by omega) (by decide)) (zM _) Z.2.1 Z.2.1 rfl rfl ?_
  refine J_if_eq Z.1 33 dX13_scalar_14 (by decide) (fun c3 => ?_) (fun c3 => ?_)
  · rw [if_pos c3] at hf
    refine J_aload_n Z.1 0 dX13_scalar_33 rfl rfl ?_
    refine J_iconst Z.1 (v := 2) (by decide) dX13_scalar_34 ?_
    replace hf := bd2_i hf
    obtain ⟨x6, h4, q5, hf⟩ := hf
    refine J_callV (ci := 11) (as := [.int 2]) (rest := []) (sy := [.int x6]) Z.1 dX13_scalar_35 cw_X13_268 (pX13_refuse_ok G (dk - 1) (by omega) q5) rfl rfl t0 (zG Z) rfl (by decide) (zF Z (by omega)) (zO Z (by omega) (by decide)) (zM _) Z.2.1 Z.2.1 rfl rfl ?_
    cases hf
    exact J_iret Z.1 Z.2.2.2.2.2 dX13_scalar_38
  · rw [if_neg c3] at hf
    refine J_aload_n Z.1 0 dX13_scalar_17 rfl rfl ?_
    refine J_aload_n Z.1 0 dX13_scalar_18 rfl rfl ?_
    refine J_get (v := va_rf (hR h2 this 20)) Z.1 dX13_scalar_19 fl_X13_34 t0 rfl ?_
    refine J_tr (fun r7 er7 => ?_)
    replace hf := lt_i hf r7 er7
    refine J_bipush Z.1 (v := 96) (by decide) dX13_scalar_22 ?_
    refine J_iload_n Z.1 1 dX13_scalar_24 rfl rfl ?_
    refine J_iadd Z.1 dX13_scalar_25 ?_
    replace hf := nn_i hf
    obtain ⟨a7, rfl, hf⟩ := hf
    replace hf := tg_i hf
    obtain ⟨t8, hf⟩ := hf
    replace hf := ix_i hf
    obtain ⟨i9, hf⟩ := hf
    refine J_daload Z.1 dX13_scalar_26 t8 i9 ?_
    replace hf := bd2_i hf
    obtain ⟨x12, h10, q11, hf⟩ := hf
    refine J_callV (ci := 11) (as := [.double (hD h2 a7 (Int32.toNatClampNeg (96 + p1)))]) (rest := []) (sy := [.int x12]) Z.1 dX13_scalar_27 cw_X13_291 (pX13_tells_ok G (dk - 1) (by omega) q11) rfl rfl t0 (zG Z) rfl (by decide) (zF Z (by omega)) (zO Z (by omega) (by decide)) (zM _) Z.2.1 Z.2.1 rfl rfl ?_
    refine J_goto Z.1 38 dX13_scalar_30 (by decide) ?_
    cases hf
    exact J_iret Z.1 Z.2.2.2.2.2 dX13_scalar_38
theorem dX13_word_0 : decode cX13_word 0 = .ok (.aload_n 0, 1) := by decide +kernel
theorem dX13_word_1 : decode cX13_word 1 = .ok (.iconst 0, 1) := by decide +kernel
theorem dX13_word_2 : decode cX13_word 2 = .ok (.putfield 71, 3) := by decide +kernel
theorem dX13_word_5 : decode cX13_word 5 = .ok (.aload_n 0, 1) := by decide +kernel
theorem dX13_word_6 : decode cX13_word 6 = .ok (.iconst 0, 1) := by decide +kernel
theorem dX13_word_7 : decode cX13_word 7 = .ok (.putfield 74, 3) := by decide +kernel
theorem dX13_word_10 : decode cX13_word 10 = .ok (.iload_n 1, 1) := by decide +kernel
theorem dX13_word_11 : decode cX13_word 11 = .ok (.invokestatic 297, 3) := by decide +kernel
theorem dX13_word_14 : decode cX13_word 14 = .ok (.ifCond .eq 19, 3) := by decide +kernel
theorem dX13_word_17 : decode cX13_word 17 = .ok (.aload_n 0, 1) := by decide +kernel
theorem dX13_word_18 : decode cX13_word 18 = .ok (.aload_n 0, 1) := by decide +kernel
theorem dX13_word_19 : decode cX13_word 19 = .ok (.getfield 34, 3) := by decide +kernel
theorem dX13_word_22 : decode cX13_word 22 = .ok (.bipush 100, 2) := by decide +kernel
theorem dX13_word_24 : decode cX13_word 24 = .ok (.iload_n 1, 1) := by decide +kernel
theorem dX13_word_25 : decode cX13_word 25 = .ok (.iadd, 1) := by decide +kernel
theorem dX13_word_26 : decode cX13_word 26 = .ok (.daload, 1) := by decide +kernel
theorem dX13_word_27 : decode cX13_word 27 = .ok (.invokevirtual 291, 3) := by decide +kernel
theorem dX13_word_30 : decode cX13_word 30 = .ok (.goto 8, 3) := by decide +kernel
theorem dX13_word_33 : decode cX13_word 33 = .ok (.aload_n 0, 1) := by decide +kernel
theorem dX13_word_34 : decode cX13_word 34 = .ok (.iconst 2, 1) := by decide +kernel
theorem dX13_word_35 : decode cX13_word 35 = .ok (.invokevirtual 268, 3) := by decide +kernel
theorem dX13_word_38 : decode cX13_word 38 = .ok (.ireturn, 1) := by decide +kernel
def pX13_word (g : MT) (h : CT) (this : Nat) (p1 : Int32) : Option ((Int32) × CT) := tg g this 12 (lt (sI h this 1 0) fun h1 => (lt (sI h1 this 0 0) fun h2 => (if (pX13_isWordAt p1) = 0 then bd2 (pX13_refuse g h2 this 2) fun x6 h4 => (some (x6, h4)) else lt (hR h2 this 20) fun r7 => (nn r7 fun a7 => (tg g a7 22 (ix (gL g a7) (100 + p1) (bd2 (pX13_tells g h2 this (hD h2 a7 (Int32.toNatClampNeg (100 + p1)))) fun x12 h10 => (some (x12, h10)))))))))
set_option maxRecDepth 10000 in
set_option maxHeartbeats 4000000 in
theorem pX13_word_ok (G : Gx) (dk : Nat) (hK : 2 ≤ dk) {g : MT} {h h0 : CT} {this : Nat} {p1 : Int32} {r0 : Int32} (hf : pX13_word g h this p1 = some (r0, h0)) : Ctr G dk yX13_word cX13_word 2 (some .int) [va_rf (some this), .int p1] g h (some (.int r0)) g h0 := by
  refine Ctr.ofZ (lv := [(0, va_rf (some this)), (1, .int p1)]) (by decide +kernel) (by simp [cat_i, cat_l, cat_d, cat_rf]) rfl fun X Z => ?_
  unfold pX13_word at hf
  replace hf := tg_i hf
  obtain ⟨t0, hf⟩ := hf
  refine J_aload_n Z.1 0 dX13_word_0 rfl rfl ?_
  refine J_iconst Z.1 (v := 0) (by decide) dX13_word_1 ?_
  refine J_putI Z.1 dX13_word_2 fl_X13_71 (fun q => by cases q) t0 rfl rfl (congrArg Value.int (hI_s _ _ _ _)) ?_
  refine J_th (fun h1 eh1 => ?_)
  replace hf := lt_i hf h1 eh1
  refine J_aload_n Z.1 0 dX13_word_5 rfl rfl ?_
  refine J_iconst Z.1 (v := 0) (by decide) dX13_word_6 ?_
  refine J_putI Z.1 dX13_word_7 fl_X13_74 (fun q => by cases q) t0 rfl rfl (congrArg Value.int (hI_s _ _ _ _)) ?_
  refine J_th (fun h2 eh2 => ?_)
  replace hf := lt_i hf h2 eh2
  refine J_iload_n Z.1 1 dX13_word_10 rfl rfl ?_
  refine J_callS (as := [.int p1]) (rest := []) (sy := [.int (pX13_isWordAt p1)]) Z.1 dX13_word_11 cw_X13_297 (pX13_isWordAt_ok G (dk - 1) (by omega) g h2 p1) (zG Z) rfl (by decide) (zF Z (by omega)) (zO Z (by omega) (by decide)) (zM _) Z.2.1 Z.2.1 rfl rfl ?_
  refine J_if_eq Z.1 33 dX13_word_14 (by decide) (fun c3 => ?_) (fun c3 => ?_)
  · rw [if_pos c3] at hf
    refine J_aload_n Z.1 0 dX13_word_33 rfl rfl ?_
    refine J_iconst Z.1 (v := 2) (by decide) dX13_word_34 ?_
    replace hf := bd2_i hf
    obtain ⟨x6, h4, q5, hf⟩ := hf
    refine J_callV (ci := 11) (as := [.int 2]) (rest := []) (sy := [.int x6]) Z.1 dX13_word_35 cw_X13_268 (pX13_refuse_ok G (dk - 1) (by omega) q5) rfl rfl t0 (zG Z) rfl (by decide) (zF Z (by omega)) (zO Z (by omega) (by decide)) (zM _) Z.2.1 Z.2.1 rfl rfl ?_
    cases hf
    exact J_iret Z.1 Z.2.2.2.2.2 dX13_word_38
  · rw [if_neg c3] at hf
    refine J_aload_n Z.1 0 dX13_word_17 rfl rfl ?_
    refine J_aload_n Z.1 0 dX13_word_18 rfl rfl ?_
    refine J_get (v := va_rf (hR h2 this 20)) Z.1 dX13_word_19 fl_X13_34 t0 rfl ?_
    refine J_tr (fun r7 er7 => ?_)
    replace hf := lt_i hf r7 er7
    refine J_bipush Z.1 (v := 100) (by decide) dX13_word_22 ?_
    refine J_iload_n Z.1 1 dX13_word_24 rfl rfl ?_
    refine J_iadd Z.1 dX13_word_25 ?_
    replace hf := nn_i hf
    obtain ⟨a7, rfl, hf⟩ := hf
    replace hf := tg_i hf
    obtain ⟨t8, hf⟩ := hf
    replace hf := ix_i hf
    obtain ⟨i9, hf⟩ := hf
    refine J_daload Z.1 dX13_word_26 t8 i9 ?_
    replace hf := bd2_i hf
    obtain ⟨x12, h10, q11, hf⟩ := hf
    refine J_callV (ci := 11) (as := [.double (hD h2 a7 (Int32.toNatClampNeg (100 + p1)))]) (rest := []) (sy := [.int x12]) Z.1 dX13_word_27 cw_X13_291 (pX13_tells_ok G (dk - 1) (by omega) q11) rfl rfl t0 (zG Z) rfl (by decide) (zF Z (by omega)) (zO Z (by omega) (by decide)) (zM _) Z.2.1 Z.2.1 rfl rfl ?_
    refine J_goto Z.1 38 dX13_word_30 (by decide) ?_
    cases hf
    exact J_iret Z.1 Z.2.2.2.2.2 dX13_word_38
theorem dX13_becomes_0 : decode cX13_becomes 0 = .ok (.aload_n 0, 1) := by decide +kernel
theorem dX13_becomes_1 : decode cX13_becomes 1 = .ok (.getfield 34, 3) := by decide +kernel
theorem dX13_becomes_4 : decode cX13_becomes 4 = .ok (.iload_n 1, 1) := by decide +kernel
theorem dX13_becomes_5 : decode cX13_becomes 5 = .ok (.dload_n 2, 1) := by decide +kernel
theorem dX13_becomes_6 : decode cX13_becomes 6 = .ok (.dastore, 1) := by decide +kernel
theorem dX13_becomes_7 : decode cX13_becomes 7 = .ok (.aload_n 0, 1) := by decide +kernel
theorem dX13_becomes_8 : decode cX13_becomes 8 = .ok (.dload_n 2, 1) := by decide +kernel
theorem dX13_becomes_9 : decode cX13_becomes 9 = .ok (.invokevirtual 291, 3) := by decide +kernel
theorem dX13_becomes_12 : decode cX13_becomes 12 = .ok (.ireturn, 1) := by decide +kernel
def pX13_becomes (g : MT) (h : CT) (this : Nat) (p1 : Int32) (p2 : UInt64) : Option ((Int32) × CT) := tg g this 12 (lt (hR h this 20) fun r1 => (nn r1 fun a1 => (tg g a1 22 (ix (gL g a1) p1 (lt (sD h a1 (Int32.toNatClampNeg p1) p2) fun h4 => (bd2 (pX13_tells g h4 this p2) fun x7 h5 => (some (x7, h5))))))))
set_option maxRecDepth 10000 in
set_option maxHeartbeats 4000000 in
theorem pX13_becomes_ok (G : Gx) (dk : Nat) (hK : 2 ≤ dk) {g : MT} {h h0 : CT} {this : Nat} {p1 : Int32} {p2 : UInt64} {r0 : Int32} (hf : pX13_becomes g h this p1 p2 = some (r0, h0)) : Ctr G dk yX13_becomes cX13_becomes 4 (some .int) [va_rf (some this), .int p1, .double p2] g h (some (.int r0)) g h0 := by
  refine Ctr.ofZ (lv := [(0, va_rf (some this)), (1, .int p1), (2, .double p2)]) (by decide +kernel) (by simp [cat_i, cat_l, cat_d, cat_rf]) rfl fun X Z => ?_
  unfold pX13_becomes at hf
  replace hf := tg_i hf
  obtain ⟨t0, hf⟩ := hf
  refine J_aload_n Z.1 0 dX13_becomes_0 rfl rfl ?_
  refine J_get (v := va_rf (hR h this 20)) Z.1 dX13_becomes_1 fl_X13_34 t0 rfl ?_
  refine J_tr (fun r1 er1 => ?_)
  replace hf := lt_i hf r1 er1
  refine J_iload_n Z.1 1 dX13_becomes_4 rfl rfl ?_
  refine J_dload_n Z.1 2 dX13_becomes_5 rfl rfl ?_
  replace hf := nn_i hf
  obtain ⟨a1, rfl, hf⟩ := hf
  replace hf := tg_i hf
  obtain ⟨t2, hf⟩ := hf
  replace hf := ix_i hf
  obtain ⟨i3, hf⟩ := hf
  refine J_dastore Z.1 dX13_becomes_6 t2 i3 ?_
  refine J_th (fun h4 eh4 => ?_)
  replace hf := lt_i hf h4 eh4
  refine J_aload_n Z.1 0 dX13_becomes_7 rfl rfl ?_
  refine J_dload_n Z.1 2 dX13_becomes_8 rfl rfl ?_
  replace hf := bd2_i hf
  obtain ⟨x7, h5, q6, hf⟩ := hf
  refine J_callV (ci := 11) (as := [.double p2]) (rest := []) (sy := [.int x7]) Z.1 dX13_becomes_9 cw_X13_291 (pX13_tells_ok G (dk - 1) (by omega) q6) rfl rfl t0 (zG Z) rfl (by decide) (zF Z (by omega)) (zO Z (by omega) (by decide)) (zM _) Z.2.1 Z.2.1 rfl rfl ?_
  cases hf
  exact J_iret Z.1 Z.2.2.2.2.2 dX13_becomes_12
theorem dX13_there_0 : decode cX13_there 0 = .ok (.aload_n 0, 1) := by decide +kernel
theorem dX13_there_1 : decode cX13_there 1 = .ok (.getfield 31, 3) := by decide +kernel
theorem dX13_there_4 : decode cX13_there 4 = .ok (.iconst 4, 1) := by decide +kernel
theorem dX13_there_5 : decode cX13_there 5 = .ok (.iaload, 1) := by decide +kernel
theorem dX13_there_6 : decode cX13_there 6 = .ok (.iload_n 1, 1) := by decide +kernel
theorem dX13_there_7 : decode cX13_there 7 = .ok (.invokestatic 287, 3) := by decide +kernel
theorem dX13_there_10 : decode cX13_there 10 = .ok (.ifCond .eq 4, 3) := by decide +kernel
theorem dX13_there_13 : decode cX13_there 13 = .ok (.return_, 1) := by decide +kernel
theorem dX13_there_14 : decode cX13_there 14 = .ok (.aload_n 0, 1) := by decide +kernel
theorem dX13_there_15 : decode cX13_there 15 = .ok (.getfield 31, 3) := by decide +kernel
theorem dX13_there_18 : decode cX13_there 18 = .ok (.iconst 4, 1) := by decide +kernel
theorem dX13_there_19 : decode cX13_there 19 = .ok (.dup2, 1) := by decide +kernel
theorem dX13_there_20 : decode cX13_there 20 = .ok (.iaload, 1) := by decide +kernel
theorem dX13_there_21 : decode cX13_there 21 = .ok (.iconst 1, 1) := by decide +kernel
theorem dX13_there_22 : decode cX13_there 22 = .ok (.iload_n 1, 1) := by decide +kernel
theorem dX13_there_23 : decode cX13_there 23 = .ok (.ishl, 1) := by decide +kernel
theorem dX13_there_24 : decode cX13_there 24 = .ok (.ior, 1) := by decide +kernel
theorem dX13_there_25 : decode cX13_there 25 = .ok (.iastore, 1) := by decide +kernel
theorem dX13_there_26 : decode cX13_there 26 = .ok (.iconst 0, 1) := by decide +kernel
theorem dX13_there_27 : decode cX13_there 27 = .ok (.istore_n 2, 1) := by decide +kernel
theorem dX13_there_28 : decode cX13_there 28 = .ok (.iload_n 2, 1) := by decide +kernel
theorem dX13_there_29 : decode cX13_there 29 = .ok (.bipush 16, 2) := by decide +kernel
theorem dX13_there_31 : decode cX13_there 31 = .ok (.if_icmp .ge 21, 3) := by decide +kernel
theorem dX13_there_34 : decode cX13_there 34 = .ok (.aload_n 0, 1) := by decide +kernel
theorem dX13_there_35 : decode cX13_there 35 = .ok (.getfield 34, 3) := by decide +kernel
theorem dX13_there_38 : decode cX13_there 38 = .ok (.bipush 16, 2) := by decide +kernel
theorem dX13_there_40 : decode cX13_there 40 = .ok (.iload_n 1, 1) := by decide +kernel
theorem dX13_there_41 : decode cX13_there 41 = .ok (.imul, 1) := by decide +kernel
theorem dX13_there_42 : decode cX13_there 42 = .ok (.iload_n 2, 1) := by decide +kernel
theorem dX13_there_43 : decode cX13_there 43 = .ok (.iadd, 1) := by decide +kernel
theorem dX13_there_44 : decode cX13_there 44 = .ok (.dconst 0, 1) := by decide +kernel
theorem dX13_there_45 : decode cX13_there 45 = .ok (.dastore, 1) := by decide +kernel
theorem dX13_there_46 : decode cX13_there 46 = .ok (.iinc 2 1, 3) := by decide +kernel
theorem dX13_there_49 : decode cX13_there 49 = .ok (.goto (-21), 3) := by decide +kernel
theorem dX13_there_52 : decode cX13_there 52 = .ok (.return_, 1) := by decide +kernel
def pX13_there_b28 (g : MT) (this : Nat) (p1 : Int32) (k28 : Int32 → CT → Option CT) (l2 : Int32) (h : CT) : Option CT := if 16 ≤ l2 then some h else lt (hR h this 20) fun r2 => (nn r2 fun a2 => (tg g a2 22 (ix (gL g a2) ((16 * p1) + l2) (lt (sD h a2 (Int32.toNatClampNeg ((16 * p1) + l2)) 0) fun h5 => (lt (l2 + 1) fun x6 => (k28 x6 h5))))))
set_option maxRecDepth 10000 in
set_option maxHeartbeats 4000000 in
theorem pX13_there_b28_ok {X : Cx} {G : Gx} {dk : Nat} {g : MT} {h0 : CT} {this : Nat} {p1 : Int32} {k28 : Int32 → CT → Option CT} (Z : Zx X G cX13_there RX13 3 dk none none g h0) (hK : 1 ≤ dk) (t0 : gT g this = 12) (hk28 : ∀ (l2 : Int32) (h : CT), k28 l2 h = some h0 → J X g h 28 [(0, va_rf (some this)), (1, .int p1), (2, .int l2)] []) (l2 : Int32) (h : CT) (hf : pX13_there_b28 g this p1 k28 l2 h = some h0) : J X g h 28 [(0, va_rf (some this)), (1, .int p1), (2, .int l2)] [] := by
  unfold pX13_there_b28 at hf
  refine J_iload_n Z.1 2 dX13_there_28 rfl rfl ?_
  refine J_bipush Z.1 (v := 16) (by decide) dX13_there_29 ?_
  refine J_icmp_ge Z.1 52 dX13_there_31 (by decide) (fun c1 => ?_) (fun c1 => ?_)
  · rw [if_pos c1] at hf
    cases hf
    exact J_vret Z.1 Z.2.2.2.2.2 dX13_there_52
  · rw [if_neg c1] at hf
    refine J_aload_n Z.1 0 dX13_there_34 rfl rfl ?_
    refine J_get (v := va_rf (hR h this 20)) Z.1 dX13_there_35 fl_X13_34 t0 rfl ?_
    refine J_tr (fun r2 er2 => ?_)
    replace hf := lt_i hf r2 er2
    refine J_bipush Z.1 (v := 16) (by decide) dX13_there_38 ?_
    refine J_iload_n Z.1 1 dX13_there_40 rfl rfl ?_
    refine J_imul Z.1 dX13_there_41 ?_
    refine J_iload_n Z.1 2 dX13_there_42 rfl rfl ?_
    refine J_iadd Z.1 dX13_there_43 ?_
    refine J_dconst0 Z.1 dX13_there_44 ?_
    replace hf := nn_i hf
    obtain ⟨a2, rfl, hf⟩ := hf
    replace hf := tg_i hf
    obtain ⟨t3, hf⟩ := hf
    replace hf := ix_i hf
    obtain ⟨i4, hf⟩ := hf
    refine J_dastore Z.1 dX13_there_45 t3 i4 ?_
    refine J_th (fun h5 eh5 => ?_)
    replace hf := lt_i hf h5 eh5
    refine J_iinc Z.1 (v := 1) (lv2 := [(2, .int (l2 + 1)), (0, va_rf (some this)), (1, .int p1)]) 2 dX13_there_46 rfl (by decide) (zL Z (by decide)) rfl ?_
    obtain ⟨x6, ex6⟩ : ∃ z, z = (l2 + 1) := ⟨_, rfl⟩
    replace hf := lt_i hf x6 ex6
    rw [← ex6]
    refine J_goto Z.1 28 dX13_there_49 (by decide) ?_
    refine J_lv [1, 2, 0] rfl ?_
    exact hk28 _ _ hf
def pX13_there_l28 (g : MT) (this : Nat) (p1 : Int32) : Nat → Int32 → CT → Option CT
  | 0, _, _ => none
  | n + 1, l2, h => pX13_there_b28 g this p1 (pX13_there_l28 g this p1 n) l2 h
theorem pX13_there_l28_ok {X : Cx} {G : Gx} {dk : Nat} {g : MT} {h0 : CT} {this : Nat} {p1 : Int32} (Z : Zx X G cX13_there RX13 3 dk none none g h0) (hK : 1 ≤ dk) (t0 : gT g this = 12) : ∀ (n : Nat) (l2 : Int32) (h : CT), pX13_there_l28 g this p1 n l2 h = some h0 → J X g h 28 [(0, va_rf (some this)), (1, .int p1), (2, .int l2)] [] := by
  intro n
  induction n with
  | zero => intro l2 h hf; cases hf
  | succ n ih => intro l2 h hf; exact pX13_there_b28_ok Z hK t0 ih l2 h hf
def pX13_there (g : MT) (h : CT) (this : Nat) (p1 : Int32) : Option CT := tg g this 12 (lt (hR h this 19) fun r1 => (nn r1 fun a1 => (tg g a1 20 (ix (gL g a1) 4 (if (pX13_has (hI h a1 (Int32.toNatClampNeg 4)) p1) = 0 then lt (hR h this 19) fun r5 => (nn r5 fun a5 => (tg g a5 20 (ix (gL g a5) 4 (ix (gL g a5) 4 (lt (sI h a5 (Int32.toNatClampNeg 4) ((hI h a5 (Int32.toNatClampNeg 4)) ||| ((1 : Int32) <<< (p1 &&& 31)))) fun h9 => (pX13_there_l28 g this p1  FUEL 0 h9)))))) else some h)))))
set_option maxRecDepth 10000 in
set_option maxHeartbeats 4000000 in
theorem pX13_there_ok (G : Gx) (dk : Nat) (hK : 1 ≤ dk) {g : MT} {h h0 : CT} {this : Nat} {p1 : Int32} (hf : pX13_there g h this p1 = some h0) : Ctr G dk yX13_there cX13_there 3 none [va_rf (some this), .int p1] g h none g h0 := by
  refine Ctr.ofZ (lv := [(0, va_rf (some this)), (1, .int p1)]) (by decide +kernel) (by simp [cat_i, cat_l, cat_d, cat_rf]) rfl fun X Z => ?_
  unfold pX13_there at hf
  replace hf := tg_i hf
  obtain ⟨t0, hf⟩ := hf
  refine J_aload_n Z.1 0 dX13_there_0 rfl rfl ?_
  refine J_get (v := va_rf (hR h this 19)) Z.1 dX13_there_1 fl_X13_31 t0 rfl ?_
  refine J_tr (fun r1 er1 => ?_)
  replace hf := lt_i hf r1 er1
  refine J_iconst Z.1 (v := 4) (by decide) dX13_there_4 ?_
  replace hf := nn_i hf
  obtain ⟨a1, rfl, hf⟩ := hf
  replace hf := tg_i hf
  obtain ⟨t2, hf⟩ := hf
  replace hf := ix_i hf
  obtain ⟨i3, hf⟩ := hf
  refine J_iaload Z.1 dX13_there_5 t2 i3 ?_
  refine J_iload_n Z.1 1 dX13_there_6 rfl rfl ?_
  refine J_callS (as := [.int (hI h a1 (Int32.toNatClampNeg 4)), .int p1]) (rest := []) (sy := [.int (pX13_has (hI h a1 (Int32.toNatClampNeg 4)) p1)]) Z.1 dX13_there_7 cw_X13_287 (pX13_has_ok G (dk - 1) (by omega) g h (hI h a1 (Int32.toNatClampNeg 4)) p1) (zG Z) rfl (by decide) (zF Z (by omega)) (zO Z (by omega) (by decide)) (zM _) Z.2.1 Z.2.1 rfl rfl ?_
  refine J_if_eq Z.1 14 dX13_there_10 (by decide) (fun c4 => ?_) (fun c4 => ?_)
  · rw [if_pos c4] at hf
    refine J_aload_n Z.1 0 dX13_there_14 rfl rfl ?_
    refine J_get (v := va_rf (hR h this 19)) Z.1 dX13_there_15 fl_X13_31 t0 rfl ?_
    refine J_tr (fun r5 er5 => ?_)
    replace hf := lt_i hf r5 er5
    refine J_iconst Z.1 (v := 4) (by decide) dX13_there_18 ?_
    refine J_dup2 Z.1 dX13_there_19 (by simp [cat_i, cat_l, cat_d, cat_rf]) (by simp [cat_i, cat_l, cat_d, cat_rf]) ?_
    replace hf := nn_i hf
    obtain ⟨a5, rfl, hf⟩ := hf
    replace hf := tg_i hf
    obtain ⟨t6, hf⟩ := hf
    replace hf := ix_i hf
    obtain ⟨i7, hf⟩ := hf
    refine J_iaload Z.1 dX13_there_20 t6 i7 ?_
    refine J_iconst Z.1 (v := 1) (by decide) dX13_there_21 ?_
    refine J_iload_n Z.1 1 dX13_there_22 rfl rfl ?_
    refine J_ishl Z.1 dX13_there_23 ?_
    refine J_ior Z.1 dX13_there_24 ?_
    replace hf := ix_i hf
    obtain ⟨i8, hf⟩ := hf
    refine J_iastore Z.1 dX13_there_25 t6 i8 ?_
    refine J_th (fun h9 eh9 => ?_)
    replace hf := lt_i hf h9 eh9
    refine J_iconst Z.1 (v := 0) (by decide) dX13_there_26 ?_
    refine J_istore_n Z.1 (lv2 := [(2, .int 0), (0, va_rf (some this)), (1, .int p1)]) dX13_there_27 rfl (zL Z (by decide)) rfl ?_
    refine J_lv [1, 2, 0] rfl ?_
    exact pX13_there_l28_ok Z hK t0  FUEL _ _ hf
  · rw [if_neg c4] at hf
    cases hf
    exact J_vret Z.1 Z.2.2.2.2.2 dX13_there_13
theorem dX13_put_0 : decode cX13_put 0 = .ok (.aload_n 0, 1) := by decide +kernel
theorem dX13_put_1 : decode cX13_put 1 = .ok (.iconst 0, 1) := by decide +kernel
theorem dX13_put_2 : decode cX13_put 2 = .ok (.putfield 71, 3) := by decide +kernel
theorem dX13_put_5 : decode cX13_put 5 = .ok (.aload_n 0, 1) := by decide +kernel
theorem dX13_put_6 : decode cX13_put 6 = .ok (.iconst 0, 1) := by decide +kernel
theorem dX13_put_7 : decode cX13_put 7 = .ok (.putfield 74, 3) := by decide +kernel
theorem dX13_put_10 : decode cX13_put 10 = .ok (.iload_n 1, 1) := by decide +kernel
theorem dX13_put_11 : decode cX13_put 11 = .ok (.invokestatic 281, 3) := by decide +kernel
theorem dX13_put_14 : decode cX13_put 14 = .ok (.ifCond .eq 10, 3) := by decide +kernel
theorem dX13_put_17 : decode cX13_put 17 = .ok (.iload_n 2, 1) := by decide +kernel
theorem dX13_put_18 : decode cX13_put 18 = .ok (.invokestatic 284, 3) := by decide +kernel
theorem dX13_put_21 : decode cX13_put 21 = .ok (.ifCond .ne 9, 3) := by decide +kernel
theorem dX13_put_24 : decode cX13_put 24 = .ok (.aload_n 0, 1) := by decide +kernel
theorem dX13_put_25 : decode cX13_put 25 = .ok (.iconst 2, 1) := by decide +kernel
theorem dX13_put_26 : decode cX13_put 26 = .ok (.invokevirtual 268, 3) := by decide +kernel
theorem dX13_put_29 : decode cX13_put 29 = .ok (.ireturn, 1) := by decide +kernel
theorem dX13_put_30 : decode cX13_put 30 = .ok (.lload_n 3, 1) := by decide +kernel
theorem dX13_put_31 : decode cX13_put 31 = .ok (.iload 5, 2) := by decide +kernel
theorem dX13_put_33 : decode cX13_put 33 = .ok (.invokestatic 300, 3) := by decide +kernel
theorem dX13_put_36 : decode cX13_put 36 = .ok (.ifCond .ne 9, 3) := by decide +kernel
theorem dX13_put_39 : decode cX13_put 39 = .ok (.aload_n 0, 1) := by decide +kernel
theorem dX13_put_40 : decode cX13_put 40 = .ok (.iconst 5, 1) := by decide +kernel
theorem dX13_put_41 : decode cX13_put 41 = .ok (.invokevirtual 268, 3) := by decide +kernel
theorem dX13_put_44 : decode cX13_put 44 = .ok (.ireturn, 1) := by decide +kernel
theorem dX13_put_45 : decode cX13_put 45 = .ok (.aload_n 0, 1) := by decide +kernel
theorem dX13_put_46 : decode cX13_put 46 = .ok (.iload_n 1, 1) := by decide +kernel
theorem dX13_put_47 : decode cX13_put 47 = .ok (.invokevirtual 304, 3) := by decide +kernel
theorem dX13_put_50 : decode cX13_put 50 = .ok (.aload_n 0, 1) := by decide +kernel
theorem dX13_put_51 : decode cX13_put 51 = .ok (.bipush 16, 2) := by decide +kernel
theorem dX13_put_53 : decode cX13_put 53 = .ok (.iload_n 1, 1) := by decide +kernel
theorem dX13_put_54 : decode cX13_put 54 = .ok (.imul, 1) := by decide +kernel
theorem dX13_put_55 : decode cX13_put 55 = .ok (.iload_n 2, 1) := by decide +kernel
theorem dX13_put_56 : decode cX13_put 56 = .ok (.iadd, 1) := by decide +kernel
theorem dX13_put_57 : decode cX13_put 57 = .ok (.lload_n 3, 1) := by decide +kernel
theorem dX13_put_58 : decode cX13_put 58 = .ok (.iload 5, 2) := by decide +kernel
theorem dX13_put_60 : decode cX13_put 60 = .ok (.invokestatic 307, 3) := by decide +kernel
theorem dX13_put_63 : decode cX13_put 63 = .ok (.invokevirtual 311, 3) := by decide +kernel
theorem dX13_put_66 : decode cX13_put 66 = .ok (.ireturn, 1) := by decide +kernel
def pX13_put_b24 (g : MT) (this : Nat) (p1 : Int32) (p2 : Int32) (p3 : Int64) (p5 : Int32) (h : CT) : Option ((Int32) × CT) := bd2 (pX13_refuse g h this 2) fun x3 h1 => (some (x3, h1))
set_option maxRecDepth 10000 in
set_option maxHeartbeats 4000000 in
theorem pX13_put_b24_ok {X : Cx} {G : Gx} {dk : Nat} {g : MT} {r0 : Int32} {h0 : CT} {this : Nat} {p1 : Int32} {p2 : Int32} {p3 : Int64} {p5 : Int32} (Z : Zx X G cX13_put RX13 6 dk (some .int) (some (.int r0)) g h0) (hK : 3 ≤ dk) (t0 : gT g this = 12) (h : CT) (hf : pX13_put_b24 g this p1 p2 p3 p5 h = some (r0, h0)) : J X g h 24 [(0, va_rf (some this))] [] := by
  unfold pX13_put_b24 at hf
  refine J_aload_n Z.1 0 dX13_put_24 rfl rfl ?_
  refine J_iconst Z.1 (v := 2) (by decide) dX13_put_25 ?_
  replace hf := bd2_i hf
  obtain ⟨x3, h1, q2, hf⟩ := hf
  refine J_callV (ci := 11) (as := [.int 2]) (rest := []) (sy := [.int x3]) Z.1 dX13_put_26 cw_X13_268 (pX13_refuse_ok G (dk - 1) (by omega) q2) rfl rfl t0 (zG Z) rfl (by decide) (zF Z (by omega)) (zO Z (by omega) (by decide)) (zM _) Z.2.1 Z.2.1 rfl rfl ?_
  cases hf
  exact J_iret Z.1 Z.2.2.2.2.2 dX13_put_29
def pX13_put (g : MT) (h : CT) (this : Nat) (p1 : Int32) (p2 : Int32) (p3 : Int64) (p5 : Int32) : Option ((Int32) × CT) := tg g this 12 (lt (sI h this 1 0) fun h1 => (lt (sI h1 this 0 0) fun h2 => (if (pX13_isRow p1) = 0 then pX13_put_b24 g this p1 p2 p3 p5  h2 else if (pX13_isElement p2) = 0 then pX13_put_b24 g this p1 p2 p3 p5  h2 else if (pX13_isNumber p3 p5) = 0 then bd2 (pX13_refuse g h2 this 5) fun x15 h13 => (some (x15, h13)) else bd (pX13_there g h2 this p1) fun h6 => (bd (pX13_madeOf g h6 p3 p5) fun x8 => (bd2 (pX13_becomes g h6 this ((16 * p1) + p2) x8) fun x12 h10 => (some (x12, h10)))))))
set_option maxRecDepth 10000 in
set_option maxHeartbeats 4000000 in
theorem pX13_put_ok (G : Gx) (dk : Nat) (hK : 3 ≤ dk) {g : MT} {h h0 : CT} {this : Nat} {p1 : Int32} {p2 : Int32} {p3 : Int64} {p5 : Int32} {r0 : Int32} (hf : pX13_put g h this p1 p2 p3 p5 = some (r0, h0)) : Ctr G dk yX13_put cX13_put 6 (some .int) [va_rf (some this), .int p1, .int p2, .long p3, .int p5] g h (some (.int r0)) g h0 := by
  refine Ctr.ofZ (lv := [(0, va_rf (some this)), (1, .int p1), (2, .int p2), (3, .long p3), (5, .int p5)]) (by decide +kernel) (by simp [cat_i, cat_l, cat_d, cat_rf]) rfl fun X Z => ?_
  unfold pX13_put at hf
  replace hf := tg_i hf
  obtain ⟨t0, hf⟩ := hf
  refine J_aload_n Z.1 0 dX13_put_0 rfl rfl ?_
  refine J_iconst Z.1 (v := 0) (by decide) dX13_put_1 ?_
  refine J_putI Z.1 dX13_put_2 fl_X13_71 (fun q => by cases q) t0 rfl rfl (congrArg Value.int (hI_s _ _ _ _)) ?_
  refine J_th (fun h1 eh1 => ?_)
  replace hf := lt_i hf h1 eh1
  refine J_aload_n Z.1 0 dX13_put_5 rfl rfl ?_
  refine J_iconst Z.1 (v := 0) (by decide) dX13_put_6 ?_
  refine J_putI Z.1 dX13_put_7 fl_X13_74 (fun q => by cases q) t0 rfl rfl (congrArg Value.int (hI_s _ _ _ _)) ?_
  refine J_th (fun h2 eh2 => ?_)
  replace hf := lt_i hf h2 eh2
  refine J_iload_n Z.1 1 dX13_put_10 rfl rfl ?_
  refine J_callS (as := [.int p1]) (rest := []) (sy := [.int (pX13_isRow p1)]) Z.1 dX13_put_11 cw_X13_281 (pX13_isRow_ok G (dk - 1) (by omega) g h2 p1) (zG Z) rfl (by decide) (zF Z (by omega)) (zO Z (by omega) (by decide)) (zM _) Z.2.1 Z.2.1 rfl rfl ?_
  refine J_if_eq Z.1 24 dX13_put_14 (by decide) (fun c3 => ?_) (fun c3 => ?_)
  · rw [if_pos c3] at hf
    refine J_lv [0] rfl ?_
    exact pX13_put_b24_ok Z hK t0  _ hf
  · rw [if_neg c3] at hf
    refine J_iload_n Z.1 2 dX13_put_17 rfl rfl ?_
    refine J_callS (as := [.int p2]) (rest := []) (sy := [.int (pX13_isElement p2)]) Z.1 dX13_put_18 cw_X13_284 (pX13_isElement_ok G (dk - 1) (by omega) g h2 p2) (zG Z) rfl (by decide) (zF Z (by omega)) (zO Z (by omega) (by decide)) (zM _) Z.2.1 Z.2.1 rfl rfl ?_
    refine J_if_ne Z.1 30 dX13_put_21 (by decide) (fun c4 => ?_) (fun c4 => ?_)
    · rw [if_neg c4] at hf
      refine J_lload_n Z.1 3 dX13_put_30 rfl rfl ?_
      refine J_iload Z.1 4 dX13_put_31 rfl ?_
      refine J_callS (as := [.long p3, .int p5]) (rest := []) (sy := [.int (pX13_isNumber p3 p5)]) Z.1 dX13_put_33 cw_X13_300 (pX13_isNumber_ok G (dk - 1) (by omega) g h2 p3 p5) (zG Z) rfl (by decide) (zF Z (by omega)) (zO Z (by omega) (by decide)) (zM _) Z.2.1 Z.2.1 rfl rfl ?_
      refine J_if_ne Z.1 45 dX13_put_36 (by decide) (fun c5 => ?_) (fun c5 => ?_)
      · rw [if_neg c5] at hf
        refine J_aload_n Z.1 0 dX13_put_45 rfl rfl ?_
        refine J_iload_n Z.1 1 dX13_put_46 rfl rfl ?_
        replace hf := bd_i hf
        obtain ⟨h6, q7, hf⟩ := hf
        refine J_callV (ci := 11) (as := [.int p1]) (rest := []) (sy := []) Z.1 dX13_put_47 cw_X13_304 (pX13_there_ok G (dk - 1) (by omega) q7) rfl rfl t0 (zG Z) rfl (by decide) (zF Z (by omega)) (zO Z (by omega) (by decide)) (zM _) Z.2.1 Z.2.1 rfl rfl ?_
        refine J_aload_n Z.1 0 dX13_put_50 rfl rfl ?_
        refine J_bipush Z.1 (v := 16) (by decide) dX13_put_51 ?_
        refine J_iload_n Z.1 1 dX13_put_53 rfl rfl ?_
        refine J_imul Z.1 dX13_put_54 ?_
        refine J_iload_n Z.1 2 dX13_put_55 rfl rfl ?_
        refine J_iadd Z.1 dX13_put_56 ?_
        refine J_lload_n Z.1 3 dX13_put_57 rfl rfl ?_
        refine J_iload Z.1 4 dX13_put_58 rfl ?_
        replace hf := bd_i hf
        obtain ⟨x8, q9, hf⟩ := hf
        refine J_callS (as := [.long p3, .int p5]) (rest := [.int ((16 * p1) + p2), va_rf (some this)]) (sy := [.double x8, .int ((16 * p1) + p2), va_rf (some this)]) Z.1 dX13_put_60 cw_X13_307 (pX13_madeOf_ok G (dk - 1) (by omega) q9) (zG Z) rfl (by simp [cat_i, cat_l, cat_d, cat_rf]) (zF Z (by omega)) (zO Z (by omega) (by decide)) (zM _) Z.2.1 Z.2.1 rfl rfl ?_
        replace hf := bd2_i hf
        obtain ⟨x12, h10, q11, hf⟩ := hf
        refine J_callV (ci := 11) (as := [.int ((16 * p1) + p2), .double x8]) (rest := []) (sy := [.int x12]) Z.1 dX13_put_63 cw_X13_311 (pX13_becomes_ok G (dk - 1) (by omega) q11) rfl rfl t0 (zG Z) rfl (by decide) (zF Z (by omega)) (zO Z (by omega) (by decide)) (zM _) Z.2.1 Z.2.1 rfl rfl ?_
        cases hf
        exact J_iret Z.1 Z.2.2.2.2.2 dX13_put_66
      · rw [if_pos c5] at hf
        refine J_aload_n Z.1 0 dX13_put_39 rfl rfl ?_
        refine J_iconst Z.1 (v := 5) (by decide) dX13_put_40 ?_
        replace hf := bd2_i hf
        obtain ⟨x15, h13, q14, hf⟩ := hf
        refine J_callV (ci := 11) (as := [.int 5]) (rest := []) (sy := [.int x15]) Z.1 dX13_put_41 cw_X13_268 (pX13_refuse_ok G (dk - 1) (by omega) q14) rfl rfl t0 (zG Z) rfl (by decide) (zF Z (by omega)) (zO Z (by omega) (by decide)) (zM _) Z.2.1 Z.2.1 rfl rfl ?_
        cases hf
        exact J_iret Z.1 Z.2.2.2.2.2 dX13_put_44
    · rw [if_pos c4] at hf
      refine J_lv [0] rfl ?_
      exact pX13_put_b24_ok Z hK t0  _ hf
theorem dX13_give_0 : decode cX13_give 0 = .ok (.aload_n 0, 1) := by decide +kernel
theorem dX13_give_1 : decode cX13_give 1 = .ok (.iconst 0, 1) := by decide +kernel
theorem dX13_give_2 : decode cX13_give 2 = .ok (.putfield 71, 3) := by decide +kernel
theorem dX13_give_5 : decode cX13_give 5 = .ok (.aload_n 0, 1) := by decide +kernel
theorem dX13_give_6 : decode cX13_give 6 = .ok (.iconst 0, 1) := by decide +kernel
theorem dX13_give_7 : decode cX13_give 7 = .ok (.putfield 74, 3) := by decide +kernel
theorem dX13_give_10 : decode cX13_give 10 = .ok (.iload_n 1, 1) := by decide +kernel
theorem dX13_give_11 : decode cX13_give 11 = .ok (.invokestatic 294, 3) := by decide +kernel
theorem dX13_give_14 : decode cX13_give 14 = .ok (.ifCond .ne 9, 3) := by decide +kernel
theorem dX13_give_17 : decode cX13_give 17 = .ok (.aload_n 0, 1) := by decide +kernel
theorem dX13_give_18 : decode cX13_give 18 = .ok (.iconst 2, 1) := by decide +kernel
theorem dX13_give_19 : decode cX13_give 19 = .ok (.invokevirtual 268, 3) := by decide +kernel
theorem dX13_give_22 : decode cX13_give 22 = .ok (.ireturn, 1) := by decide +kernel
theorem dX13_give_23 : decode cX13_give 23 = .ok (.lload_n 2, 1) := by decide +kernel
theorem dX13_give_24 : decode cX13_give 24 = .ok (.iload 4, 2) := by decide +kernel
theorem dX13_give_26 : decode cX13_give 26 = .ok (.invokestatic 300, 3) := by decide +kernel
theorem dX13_give_29 : decode cX13_give 29 = .ok (.ifCond .eq 20, 3) := by decide +kernel
theorem dX13_give_32 : decode cX13_give 32 = .ok (.aload_n 0, 1) := by decide +kernel
theorem dX13_give_33 : decode cX13_give 33 = .ok (.bipush 96, 2) := by decide +kernel
theorem dX13_give_35 : decode cX13_give 35 = .ok (.iload_n 1, 1) := by decide +kernel
theorem dX13_give_36 : decode cX13_give 36 = .ok (.iadd, 1) := by decide +kernel
theorem dX13_give_37 : decode cX13_give 37 = .ok (.lload_n 2, 1) := by decide +kernel
theorem dX13_give_38 : decode cX13_give 38 = .ok (.iload 4, 2) := by decide +kernel
theorem dX13_give_40 : decode cX13_give 40 = .ok (.invokestatic 307, 3) := by decide +kernel
theorem dX13_give_43 : decode cX13_give 43 = .ok (.invokevirtual 311, 3) := by decide +kernel
theorem dX13_give_46 : decode cX13_give 46 = .ok (.goto 8, 3) := by decide +kernel
theorem dX13_give_49 : decode cX13_give 49 = .ok (.aload_n 0, 1) := by decide +kernel
theorem dX13_give_50 : decode cX13_give 50 = .ok (.iconst 5, 1) := by decide +kernel
theorem dX13_give_51 : decode cX13_give 51 = .ok (.invokevirtual 268, 3) := by decide +kernel
theorem dX13_give_54 : decode cX13_give 54 = .ok (.ireturn, 1) := by decide +kernel
def pX13_give (g : MT) (h : CT) (this : Nat) (p1 : Int32) (p2 : Int64) (p4 : Int32) : Option ((Int32) × CT) := tg g this 12 (lt (sI h this 1 0) fun h1 => (lt (sI h1 this 0 0) fun h2 => (if (pX13_isScalar p1) = 0 then bd2 (pX13_refuse g h2 this 2) fun x15 h13 => (some (x15, h13)) else if (pX13_isNumber p2 p4) = 0 then bd2 (pX13_refuse g h2 this 5) fun x7 h5 => (some (x7, h5)) else bd (pX13_madeOf g h2 p2 p4) fun x8 => (bd2 (pX13_becomes g h2 this (96 + p1) x8) fun x12 h10 => (some (x12, h10))))))
set_option maxRecDepth 10000 in
set_option maxHeartbeats 4000000 in
theorem pX13_give_ok (G : Gx) (dk : Nat) (hK : 3 ≤ dk) {g : MT} {h h0 : CT} {this : Nat} {p1 : Int32} {p2 : Int64} {p4 : Int32} {r0 : Int32} (hf : pX13_give g h this p1 p2 p4 = some (r0, h0)) : Ctr G dk yX13_give cX13_give 5 (some .int) [va_rf (some this), .int p1, .long p2, .int p4] g h (some (.int r0)) g h0 := by
  refine Ctr.ofZ (lv := [(0, va_rf (some this)), (1, .int p1), (2, .long p2), (4, .int p4)]) (by decide +kernel) (by simp [cat_i, cat_l, cat_d, cat_rf]) rfl fun X Z => ?_
  unfold pX13_give at hf
  replace hf := tg_i hf
  obtain ⟨t0, hf⟩ := hf
  refine J_aload_n Z.1 0 dX13_give_0 rfl rfl ?_
  refine J_iconst Z.1 (v := 0) (by decide) dX13_give_1 ?_
  refine J_putI Z.1 dX13_give_2 fl_X13_71 (fun q => by cases q) t0 rfl rfl (congrArg Value.int (hI_s _ _ _ _)) ?_
  refine J_th (fun h1 eh1 => ?_)
  replace hf := lt_i hf h1 eh1
  refine J_aload_n Z.1 0 dX13_give_5 rfl rfl ?_
  refine J_iconst Z.1 (v := 0) (by decide) dX13_give_6 ?_
  refine J_putI Z.1 dX13_give_7 fl_X13_74 (fun q => by cases q) t0 rfl rfl (congrArg Value.int (hI_s _ _ _ _)) ?_
  refine J_th (fun h2 eh2 => ?_)
  replace hf := lt_i hf h2 eh2
  refine J_iload_n Z.1 1 dX13_give_10 rfl rfl ?_
  refine J_callS (as := [.int p1]) (rest := []) (sy := [.int (pX13_isScalar p1)]) Z.1 dX13_give_11 cw_X13_294 (pX13_isScalar_ok G (dk - 1) (by omega) g h2 p1) (zG Z) rfl (by decide) (zF Z (by omega)) (zO Z (by omega) (by decide)) (zM _) Z.2.1 Z.2.1 rfl rfl ?_
  refine J_if_ne Z.1 23 dX13_give_14 (by decide) (fun c3 => ?_) (fun c3 => ?_)
  · rw [if_neg c3] at hf
    refine J_lload_n Z.1 2 dX13_give_23 rfl rfl ?_
    refine J_iload Z.1 3 dX13_give_24 rfl ?_
    refine J_callS (as := [.long p2, .int p4]) (rest := []) (sy := [.int (pX13_isNumber p2 p4)]) Z.1 dX13_give_26 cw_X13_300 (pX13_isNumber_ok G (dk - 1) (by omega) g h2 p2 p4) (zG Z) rfl (by decide) (zF Z (by omega)) (zO Z (by omega) (by decide)) (zM _) Z.2.1 Z.2.1 rfl rfl ?_
    refine J_if_eq Z.1 49 dX13_give_29 (by decide) (fun c4 => ?_) (fun c4 => ?_)
    · rw [if_pos c4] at hf
      refine J_aload_n Z.1 0 dX13_give_49 rfl rfl ?_
      refine J_iconst Z.1 (v := 5) (by decide) dX13_give_50 ?_
      replace hf := bd2_i hf
      obtain ⟨x7, h5, q6, hf⟩ := hf
      refine J_callV (ci := 11) (as := [.int 5]) (rest := []) (sy := [.int x7]) Z.1 dX13_give_51 cw_X13_268 (pX13_refuse_ok G (dk - 1) (by omega) q6) rfl rfl t0 (zG Z) rfl (by decide) (zF Z (by omega)) (zO Z (by omega) (by decide)) (zM _) Z.2.1 Z.2.1 rfl rfl ?_
      cases hf
      exact J_iret Z.1 Z.2.2.2.2.2 dX13_give_54
    · rw [if_neg c4] at hf
      refine J_aload_n Z.1 0 dX13_give_32 rfl rfl ?_
      refine J_bipush Z.1 (v := 96) (by decide) dX13_give_33 ?_
      refine J_iload_n Z.1 1 dX13_give_35 rfl rfl ?_
      refine J_iadd Z.1 dX13_give_36 ?_
      refine J_lload_n Z.1 2 dX13_give_37 rfl rfl ?_
      refine J_iload Z.1 3 dX13_give_38 rfl ?_
      replace hf := bd_i hf
      obtain ⟨x8, q9, hf⟩ := hf
      refine J_callS (as := [.long p2, .int p4]) (rest := [.int (96 + p1), va_rf (some this)]) (sy := [.double x8, .int (96 + p1), va_rf (some this)]) Z.1 dX13_give_40 cw_X13_307 (pX13_madeOf_ok G (dk - 1) (by omega) q9) (zG Z) rfl (by simp [cat_i, cat_l, cat_d, cat_rf]) (zF Z (by omega)) (zO Z (by omega) (by decide)) (zM _) Z.2.1 Z.2.1 rfl rfl ?_
      replace hf := bd2_i hf
      obtain ⟨x12, h10, q11, hf⟩ := hf
      refine J_callV (ci := 11) (as := [.int (96 + p1), .double x8]) (rest := []) (sy := [.int x12]) Z.1 dX13_give_43 cw_X13_311 (pX13_becomes_ok G (dk - 1) (by omega) q11) rfl rfl t0 (zG Z) rfl (by decide) (zF Z (by omega)) (zO Z (by omega) (by decide)) (zM _) Z.2.1 Z.2.1 rfl rfl ?_
      refine J_goto Z.1 54 dX13_give_46 (by decide) ?_
      cases hf
      exact J_iret Z.1 Z.2.2.2.2.2 dX13_give_54
  · rw [if_pos c3] at hf
    refine J_aload_n Z.1 0 dX13_give_17 rfl rfl ?_
    refine J_iconst Z.1 (v := 2) (by decide) dX13_give_18 ?_
    replace hf := bd2_i hf
    obtain ⟨x15, h13, q14, hf⟩ := hf
    refine J_callV (ci := 11) (as := [.int 2]) (rest := []) (sy := [.int x15]) Z.1 dX13_give_19 cw_X13_268 (pX13_refuse_ok G (dk - 1) (by omega) q14) rfl rfl t0 (zG Z) rfl (by decide) (zF Z (by omega)) (zO Z (by omega) (by decide)) (zM _) Z.2.1 Z.2.1 rfl rfl ?_
    cases hf
    exact J_iret Z.1 Z.2.2.2.2.2 dX13_give_22
theorem dX13_poke_0 : decode cX13_poke 0 = .ok (.aload_n 0, 1) := by decide +kernel
theorem dX13_poke_1 : decode cX13_poke 1 = .ok (.iconst 0, 1) := by decide +kernel
theorem dX13_poke_2 : decode cX13_poke 2 = .ok (.putfield 71, 3) := by decide +kernel
theorem dX13_poke_5 : decode cX13_poke 5 = .ok (.aload_n 0, 1) := by decide +kernel
theorem dX13_poke_6 : decode cX13_poke 6 = .ok (.iconst 0, 1) := by decide +kernel
theorem dX13_poke_7 : decode cX13_poke 7 = .ok (.putfield 74, 3) := by decide +kernel
theorem dX13_poke_10 : decode cX13_poke 10 = .ok (.iload_n 1, 1) := by decide +kernel
theorem dX13_poke_11 : decode cX13_poke 11 = .ok (.invokestatic 297, 3) := by decide +kernel
theorem dX13_poke_14 : decode cX13_poke 14 = .ok (.ifCond .ne 9, 3) := by decide +kernel
theorem dX13_poke_17 : decode cX13_poke 17 = .ok (.aload_n 0, 1) := by decide +kernel
theorem dX13_poke_18 : decode cX13_poke 18 = .ok (.iconst 2, 1) := by decide +kernel
theorem dX13_poke_19 : decode cX13_poke 19 = .ok (.invokevirtual 268, 3) := by decide +kernel
theorem dX13_poke_22 : decode cX13_poke 22 = .ok (.ireturn, 1) := by decide +kernel
theorem dX13_poke_23 : decode cX13_poke 23 = .ok (.lload_n 2, 1) := by decide +kernel
theorem dX13_poke_24 : decode cX13_poke 24 = .ok (.iload 4, 2) := by decide +kernel
theorem dX13_poke_26 : decode cX13_poke 26 = .ok (.invokestatic 300, 3) := by decide +kernel
theorem dX13_poke_29 : decode cX13_poke 29 = .ok (.ifCond .eq 20, 3) := by decide +kernel
theorem dX13_poke_32 : decode cX13_poke 32 = .ok (.aload_n 0, 1) := by decide +kernel
theorem dX13_poke_33 : decode cX13_poke 33 = .ok (.bipush 100, 2) := by decide +kernel
theorem dX13_poke_35 : decode cX13_poke 35 = .ok (.iload_n 1, 1) := by decide +kernel
theorem dX13_poke_36 : decode cX13_poke 36 = .ok (.iadd, 1) := by decide +kernel
theorem dX13_poke_37 : decode cX13_poke 37 = .ok (.lload_n 2, 1) := by decide +kernel
theorem dX13_poke_38 : decode cX13_poke 38 = .ok (.iload 4, 2) := by decide +kernel
theorem dX13_poke_40 : decode cX13_poke 40 = .ok (.invokestatic 307, 3) := by decide +kernel
theorem dX13_poke_43 : decode cX13_poke 43 = .ok (.invokevirtual 311, 3) := by decide +kernel
theorem dX13_poke_46 : decode cX13_poke 46 = .ok (.goto 8, 3) := by decide +kernel
theorem dX13_poke_49 : decode cX13_poke 49 = .ok (.aload_n 0, 1) := by decide +kernel
theorem dX13_poke_50 : decode cX13_poke 50 = .ok (.iconst 5, 1) := by decide +kernel
theorem dX13_poke_51 : decode cX13_poke 51 = .ok (.invokevirtual 268, 3) := by decide +kernel
theorem dX13_poke_54 : decode cX13_poke 54 = .ok (.ireturn, 1) := by decide +kernel
def pX13_poke (g : MT) (h : CT) (this : Nat) (p1 : Int32) (p2 : Int64) (p4 : Int32) : Option ((Int32) × CT) := tg g this 12 (lt (sI h this 1 0) fun h1 => (lt (sI h1 this 0 0) fun h2 => (if (pX13_isWordAt p1) = 0 then bd2 (pX13_refuse g h2 this 2) fun x15 h13 => (some (x15, h13)) else if (pX13_isNumber p2 p4) = 0 then bd2 (pX13_refuse g h2 this 5) fun x7 h5 => (some (x7, h5)) else bd (pX13_madeOf g h2 p2 p4) fun x8 => (bd2 (pX13_becomes g h2 this (100 + p1) x8) fun x12 h10 => (some (x12, h10))))))
set_option maxRecDepth 10000 in
set_option maxHeartbeats 4000000 in
theorem pX13_poke_ok (G : Gx) (dk : Nat) (hK : 3 ≤ dk) {g : MT} {h h0 : CT} {this : Nat} {p1 : Int32} {p2 : Int64} {p4 : Int32} {r0 : Int32} (hf : pX13_poke g h this p1 p2 p4 = some (r0, h0)) : Ctr G dk yX13_poke cX13_poke 5 (some .int) [va_rf (some this), .int p1, .long p2, .int p4] g h (some (.int r0)) g h0 := by
  refine Ctr.ofZ (lv := [(0, va_rf (some this)), (1, .int p1), (2, .long p2), (4, .int p4)]) (by decide +kernel) (by simp [cat_i, cat_l, cat_d, cat_rf]) rfl fun X Z => ?_
  unfold pX13_poke at hf
  replace hf := tg_i hf
  obtain ⟨t0, hf⟩ := hf
  refine J_aload_n Z.1 0 dX13_poke_0 rfl rfl ?_
  refine J_iconst Z.1 (v := 0) (by decide) dX13_poke_1 ?_
  refine J_putI Z.1 dX13_poke_2 fl_X13_71 (fun q => by cases q) t0 rfl rfl (congrArg Value.int (hI_s _ _ _ _)) ?_
  refine J_th (fun h1 eh1 => ?_)
  replace hf := lt_i hf h1 eh1
  refine J_aload_n Z.1 0 dX13_poke_5 rfl rfl ?_
  refine J_iconst Z.1 (v := 0) (by decide) dX13_poke_6 ?_
  refine J_putI Z.1 dX13_poke_7 fl_X13_74 (fun q => by cases q) t0 rfl rfl (congrArg Value.int (hI_s _ _ _ _)) ?_
  refine J_th (fun h2 eh2 => ?_)
  replace hf := lt_i hf h2 eh2
  refine J_iload_n Z.1 1 dX13_poke_10 rfl rfl ?_
  refine J_callS (as := [.int p1]) (rest := []) (sy := [.int (pX13_isWordAt p1)]) Z.1 dX13_poke_11 cw_X13_297 (pX13_isWordAt_ok G (dk - 1) (by omega) g h2 p1) (zG Z) rfl (by decide) (zF Z (by omega)) (zO Z (by omega) (by decide)) (zM _) Z.2.1 Z.2.1 rfl rfl ?_
  refine J_if_ne Z.1 23 dX13_poke_14 (by decide) (fun c3 => ?_) (fun c3 => ?_)
  · rw [if_neg c3] at hf
    refine J_lload_n Z.1 2 dX13_poke_23 rfl rfl ?_
    refine J_iload Z.1 3 dX13_poke_24 rfl ?_
    refine J_callS (as := [.long p2, .int p4]) (rest := []) (sy := [.int (pX13_isNumber p2 p4)]) Z.1 dX13_poke_26 cw_X13_300 (pX13_isNumber_ok G (dk - 1) (by omega) g h2 p2 p4) (zG Z) rfl (by decide) (zF Z (by omega)) (zO Z (by omega) (by decide)) (zM _) Z.2.1 Z.2.1 rfl rfl ?_
    refine J_if_eq Z.1 49 dX13_poke_29 (by decide) (fun c4 => ?_) (fun c4 => ?_)
    · rw [if_pos c4] at hf
      refine J_aload_n Z.1 0 dX13_poke_49 rfl rfl ?_
      refine J_iconst Z.1 (v := 5) (by decide) dX13_poke_50 ?_
      replace hf := bd2_i hf
      obtain ⟨x7, h5, q6, hf⟩ := hf
      refine J_callV (ci := 11) (as := [.int 5]) (rest := []) (sy := [.int x7]) Z.1 dX13_poke_51 cw_X13_268 (pX13_refuse_ok G (dk - 1) (by omega) q6) rfl rfl t0 (zG Z) rfl (by decide) (zF Z (by omega)) (zO Z (by omega) (by decide)) (zM _) Z.2.1 Z.2.1 rfl rfl ?_
      cases hf
      exact J_iret Z.1 Z.2.2.2.2.2 dX13_poke_54
    · rw [if_neg c4] at hf
      refine J_aload_n Z.1 0 dX13_poke_32 rfl rfl ?_
      refine J_bipush Z.1 (v := 100) (by decide) dX13_poke_33 ?_
      refine J_iload_n Z.1 1 dX13_poke_35 rfl rfl ?_
      refine J_iadd Z.1 dX13_poke_36 ?_
      refine J_lload_n Z.1 2 dX13_poke_37 rfl rfl ?_
      refine J_iload Z.1 3 dX13_poke_38 rfl ?_
      replace hf := bd_i hf
      obtain ⟨x8, q9, hf⟩ := hf
      refine J_callS (as := [.long p2, .int p4]) (rest := [.int (100 + p1), va_rf (some this)]) (sy := [.double x8, .int (100 + p1), va_rf (some this)]) Z.1 dX13_poke_40 cw_X13_307 (pX13_madeOf_ok G (dk - 1) (by omega) q9) (zG Z) rfl (by simp [cat_i, cat_l, cat_d, cat_rf]) (zF Z (by omega)) (zO Z (by omega) (by decide)) (zM _) Z.2.1 Z.2.1 rfl rfl ?_
      replace hf := bd2_i hf
      obtain ⟨x12, h10, q11, hf⟩ := hf
      refine J_callV (ci := 11) (as := [.int (100 + p1), .double x8]) (rest := []) (sy := [.int x12]) Z.1 dX13_poke_43 cw_X13_311 (pX13_becomes_ok G (dk - 1) (by omega) q11) rfl rfl t0 (zG Z) rfl (by decide) (zF Z (by omega)) (zO Z (by omega) (by decide)) (zM _) Z.2.1 Z.2.1 rfl rfl ?_
      refine J_goto Z.1 54 dX13_poke_46 (by decide) ?_
      cases hf
      exact J_iret Z.1 Z.2.2.2.2.2 dX13_poke_54
  · rw [if_pos c3] at hf
    refine J_aload_n Z.1 0 dX13_poke_17 rfl rfl ?_
    refine J_iconst Z.1 (v := 2) (by decide) dX13_poke_18 ?_
    replace hf := bd2_i hf
    obtain ⟨x15, h13, q14, hf⟩ := hf
    refine J_callV (ci := 11) (as := [.int 2]) (rest := []) (sy := [.int x15]) Z.1 dX13_poke_19 cw_X13_268 (pX13_refuse_ok G (dk - 1) (by omega) q14) rfl rfl t0 (zG Z) rfl (by decide) (zF Z (by omega)) (zO Z (by omega) (by decide)) (zM _) Z.2.1 Z.2.1 rfl rfl ?_
    cases hf
    exact J_iret Z.1 Z.2.2.2.2.2 dX13_poke_22
theorem dX13_strange_0 : decode cX13_strange 0 = .ok (.aload_n 0, 1) := by decide +kernel
theorem dX13_strange_1 : decode cX13_strange 1 = .ok (.iconst 0, 1) := by decide +kernel
theorem dX13_strange_2 : decode cX13_strange 2 = .ok (.putfield 71, 3) := by decide +kernel
theorem dX13_strange_5 : decode cX13_strange 5 = .ok (.aload_n 0, 1) := by decide +kernel
theorem dX13_strange_6 : decode cX13_strange 6 = .ok (.iconst 0, 1) := by decide +kernel
theorem dX13_strange_7 : decode cX13_strange 7 = .ok (.putfield 74, 3) := by decide +kernel
theorem dX13_strange_10 : decode cX13_strange 10 = .ok (.iload_n 1, 1) := by decide +kernel
theorem dX13_strange_11 : decode cX13_strange 11 = .ok (.invokestatic 297, 3) := by decide +kernel
theorem dX13_strange_14 : decode cX13_strange 14 = .ok (.ifCond .ne 9, 3) := by decide +kernel
theorem dX13_strange_17 : decode cX13_strange 17 = .ok (.aload_n 0, 1) := by decide +kernel
theorem dX13_strange_18 : decode cX13_strange 18 = .ok (.iconst 2, 1) := by decide +kernel
theorem dX13_strange_19 : decode cX13_strange 19 = .ok (.invokevirtual 268, 3) := by decide +kernel
theorem dX13_strange_22 : decode cX13_strange 22 = .ok (.ireturn, 1) := by decide +kernel
theorem dX13_strange_23 : decode cX13_strange 23 = .ok (.iload_n 2, 1) := by decide +kernel
theorem dX13_strange_24 : decode cX13_strange 24 = .ok (.i2l, 1) := by decide +kernel
theorem dX13_strange_25 : decode cX13_strange 25 = .ok (.lconst 1, 1) := by decide +kernel
theorem dX13_strange_26 : decode cX13_strange 26 = .ok (.ldc2_w 275, 3) := by decide +kernel
theorem dX13_strange_29 : decode cX13_strange 29 = .ok (.invokestatic 104, 3) := by decide +kernel
theorem dX13_strange_32 : decode cX13_strange 32 = .ok (.ifCond .ne 9, 3) := by decide +kernel
theorem dX13_strange_35 : decode cX13_strange 35 = .ok (.aload_n 0, 1) := by decide +kernel
theorem dX13_strange_36 : decode cX13_strange 36 = .ok (.iconst 5, 1) := by decide +kernel
theorem dX13_strange_37 : decode cX13_strange 37 = .ok (.invokevirtual 268, 3) := by decide +kernel
theorem dX13_strange_40 : decode cX13_strange 40 = .ok (.ireturn, 1) := by decide +kernel
theorem dX13_strange_41 : decode cX13_strange 41 = .ok (.aload_n 0, 1) := by decide +kernel
theorem dX13_strange_42 : decode cX13_strange 42 = .ok (.getfield 34, 3) := by decide +kernel
theorem dX13_strange_45 : decode cX13_strange 45 = .ok (.bipush 100, 2) := by decide +kernel
theorem dX13_strange_47 : decode cX13_strange 47 = .ok (.iload_n 1, 1) := by decide +kernel
theorem dX13_strange_48 : decode cX13_strange 48 = .ok (.iadd, 1) := by decide +kernel
theorem dX13_strange_49 : decode cX13_strange 49 = .ok (.daload, 1) := by decide +kernel
theorem dX13_strange_50 : decode cX13_strange 50 = .ok (.invokestatic 108, 3) := by decide +kernel
theorem dX13_strange_53 : decode cX13_strange 53 = .ok (.istore_n 3, 1) := by decide +kernel
theorem dX13_strange_54 : decode cX13_strange 54 = .ok (.aload_n 0, 1) := by decide +kernel
theorem dX13_strange_55 : decode cX13_strange 55 = .ok (.getfield 34, 3) := by decide +kernel
theorem dX13_strange_58 : decode cX13_strange 58 = .ok (.bipush 100, 2) := by decide +kernel
theorem dX13_strange_60 : decode cX13_strange 60 = .ok (.iload_n 1, 1) := by decide +kernel
theorem dX13_strange_61 : decode cX13_strange 61 = .ok (.iadd, 1) := by decide +kernel
theorem dX13_strange_62 : decode cX13_strange 62 = .ok (.iload_n 2, 1) := by decide +kernel
theorem dX13_strange_63 : decode cX13_strange 63 = .ok (.invokestatic 315, 3) := by decide +kernel
theorem dX13_strange_66 : decode cX13_strange 66 = .ok (.dastore, 1) := by decide +kernel
theorem dX13_strange_67 : decode cX13_strange 67 = .ok (.iload_n 3, 1) := by decide +kernel
theorem dX13_strange_68 : decode cX13_strange 68 = .ok (.ireturn, 1) := by decide +kernel
def pX13_strange (g : MT) (h : CT) (this : Nat) (p1 : Int32) (p2 : Int32) : Option ((Int32) × CT) := tg g this 12 (lt (sI h this 1 0) fun h1 => (lt (sI h1 this 0 0) fun h2 => (if (pX13_isWordAt p1) = 0 then bd2 (pX13_refuse g h2 this 2) fun x18 h16 => (some (x18, h16)) else if (pX13_isIn (Int32.toInt64 p2) 1 5) = 0 then bd2 (pX13_refuse g h2 this 5) fun x15 h13 => (some (x15, h13)) else lt (hR h2 this 20) fun r5 => (nn r5 fun a5 => (tg g a5 22 (ix (gL g a5) (100 + p1) (lt (pX13_kindOf (hD h2 a5 (Int32.toNatClampNeg (100 + p1)))) fun x8 => (lt (hR h2 this 20) fun r9 => (nn r9 fun a9 => (tg g a9 22 (ix (gL g a9) (100 + p1) (lt (sD h2 a9 (Int32.toNatClampNeg (100 + p1)) (pX13_strangeOf p2)) fun h12 => (some (x8, h12))))))))))))))
set_option maxRecDepth 10000 in
set_option maxHeartbeats 4000000 in
theorem pX13_strange_ok (G : Gx) (dk : Nat) (hK : 2 ≤ dk) {g : MT} {h h0 : CT} {this : Nat} {p1 : Int32} {p2 : Int32} {r0 : Int32} (hf : pX13_strange g h this p1 p2 = some (r0, h0)) : Ctr G dk yX13_strange cX13_strange 4 (some .int) [va_rf (some this), .int p1, .int p2] g h (some (.int r0)) g h0 := by
  refine Ctr.ofZ (lv := [(0, va_rf (some this)), (1, .int p1), (2, .int p2)]) (by decide +kernel) (by simp [cat_i, cat_l, cat_d, cat_rf]) rfl fun X Z => ?_
  unfold pX13_strange at hf
  replace hf := tg_i hf
  obtain ⟨t0, hf⟩ := hf
  refine J_aload_n Z.1 0 dX13_strange_0 rfl rfl ?_
  refine J_iconst Z.1 (v := 0) (by decide) dX13_strange_1 ?_
  refine J_putI Z.1 dX13_strange_2 fl_X13_71 (fun q => by cases q) t0 rfl rfl (congrArg Value.int (hI_s _ _ _ _)) ?_
  refine J_th (fun h1 eh1 => ?_)
  replace hf := lt_i hf h1 eh1
  refine J_aload_n Z.1 0 dX13_strange_5 rfl rfl ?_
  refine J_iconst Z.1 (v := 0) (by decide) dX13_strange_6 ?_
  refine J_putI Z.1 dX13_strange_7 fl_X13_74 (fun q => by cases q) t0 rfl rfl (congrArg Value.int (hI_s _ _ _ _)) ?_
  refine J_th (fun h2 eh2 => ?_)
  replace hf := lt_i hf h2 eh2
  refine J_iload_n Z.1 1 dX13_strange_10 rfl rfl ?_
  refine J_callS (as := [.int p1]) (rest := []) (sy := [.int (pX13_isWordAt p1)]) Z.1 dX13_strange_11 cw_X13_297 (pX13_isWordAt_ok G (dk - 1) (by omega) g h2 p1) (zG Z) rfl (by decide) (zF Z (by omega)) (zO Z (by omega) (by decide)) (zM _) Z.2.1 Z.2.1 rfl rfl ?_
  refine J_if_ne Z.1 23 dX13_strange_14 (by decide) (fun c3 => ?_) (fun c3 => ?_)
  · rw [if_neg c3] at hf
    refine J_iload_n Z.1 2 dX13_strange_23 rfl rfl ?_
    refine J_i2l Z.1 dX13_strange_24 ?_
    refine J_lconst Z.1 (v := 1) (by decide) dX13_strange_25 ?_
    refine J_ldc2 Z.1 q_1749 dX13_strange_26 ?_
    refine J_callS (as := [.long (Int32.toInt64 p2), .long 1, .long 5]) (rest := []) (sy := [.int (pX13_isIn (Int32.toInt64 p2) 1 5)]) Z.1 dX13_strange_29 cw_X13_104 (pX13_isIn_ok G (dk - 1) (by omega) g h2 (Int32.toInt64 p2) 1 5) (zG Z) rfl (by decide) (zF Z (by omega)) (zO Z (by omega) (by decide)) (zM _) Z.2.1 Z.2.1 rfl rfl ?_
    refine J_if_ne Z.1 41 dX13_strange_32 (by decide) (fun c4 => ?_) (fun c4 => ?_)
    · rw [if_neg c4] at hf
      refine J_aload_n Z.1 0 dX13_strange_41 rfl rfl ?_
      refine J_get (v := va_rf (hR h2 this 20)) Z.1 dX13_strange_42 fl_X13_34 t0 rfl ?_
      refine J_tr (fun r5 er5 => ?_)
      replace hf := lt_i hf r5 er5
      refine J_bipush Z.1 (v := 100) (by decide) dX13_strange_45 ?_
      refine J_iload_n Z.1 1 dX13_strange_47 rfl rfl ?_
      refine J_iadd Z.1 dX13_strange_48 ?_
      replace hf := nn_i hf
      obtain ⟨a5, rfl, hf⟩ := hf
      replace hf := tg_i hf
      obtain ⟨t6, hf⟩ := hf
      replace hf := ix_i hf
      obtain ⟨i7, hf⟩ := hf
      refine J_daload Z.1 dX13_strange_49 t6 i7 ?_
      refine J_callS (as := [.double (hD h2 a5 (Int32.toNatClampNeg (100 + p1)))]) (rest := []) (sy := [.int (pX13_kindOf (hD h2 a5 (Int32.toNatClampNeg (100 + p1))))]) Z.1 dX13_strange_50 cw_X13_108 (pX13_kindOf_ok G (dk - 1) (by omega) g h2 (hD h2 a5 (Int32.toNatClampNeg (100 + p1)))) (zG Z) rfl (by decide) (zF Z (by omega)) (zO Z (by omega) (by decide)) (zM _) Z.2.1 Z.2.1 rfl rfl ?_
      refine J_ti (fun x8 ex8 => ?_)
      replace hf := lt_i hf x8 ex8
      refine J_istore_n Z.1 (lv2 := [(3, .int x8), (0, va_rf (some this)), (1, .int p1), (2, .int p2)]) dX13_strange_53 rfl (zL Z (by decide)) rfl ?_
      refine J_aload_n Z.1 1 dX13_strange_54 rfl rfl ?_
      refine J_get (v := va_rf (hR h2 this 20)) Z.1 dX13_strange_55 fl_X13_34 t0 rfl ?_
      refine J_tr (fun r9 er9 => ?_)
      replace hf := lt_i hf r9 er9
      refine J_bipush Z.1 (v := 100) (by decide) dX13_strange_58 ?_
      refine J_iload_n Z.1 2 dX13_strange_60 rfl rfl ?_
      refine J_iadd Z.1 dX13_strange_61 ?_
      refine J_iload_n Z.1 3 dX13_strange_62 rfl rfl ?_
      refine J_callS (as := [.int p2]) (rest := [.int (100 + p1), va_rf r9]) (sy := [.double (pX13_strangeOf p2), .int (100 + p1), va_rf r9]) Z.1 dX13_strange_63 cw_X13_315 (pX13_strangeOf_ok G (dk - 1) (by omega) g h2 p2) (zG Z) rfl (by simp [cat_i, cat_l, cat_d, cat_rf]) (zF Z (by omega)) (zO Z (by omega) (by decide)) (zM _) Z.2.1 Z.2.1 rfl rfl ?_
      replace hf := nn_i hf
      obtain ⟨a9, rfl, hf⟩ := hf
      replace hf := tg_i hf
      obtain ⟨t10, hf⟩ := hf
      replace hf := ix_i hf
      obtain ⟨i11, hf⟩ := hf
      refine J_dastore Z.1 dX13_strange_66 t10 i11 ?_
      refine J_th (fun h12 eh12 => ?_)
      replace hf := lt_i hf h12 eh12
      refine J_iload_n Z.1 0 dX13_strange_67 rfl rfl ?_
      cases hf
      exact J_iret Z.1 Z.2.2.2.2.2 dX13_strange_68
    · rw [if_pos c4] at hf
      refine J_aload_n Z.1 0 dX13_strange_35 rfl rfl ?_
      refine J_iconst Z.1 (v := 5) (by decide) dX13_strange_36 ?_
      replace hf := bd2_i hf
      obtain ⟨x15, h13, q14, hf⟩ := hf
      refine J_callV (ci := 11) (as := [.int 5]) (rest := []) (sy := [.int x15]) Z.1 dX13_strange_37 cw_X13_268 (pX13_refuse_ok G (dk - 1) (by omega) q14) rfl rfl t0 (zG Z) rfl (by decide) (zF Z (by omega)) (zO Z (by omega) (by decide)) (zM _) Z.2.1 Z.2.1 rfl rfl ?_
      cases hf
      exact J_iret Z.1 Z.2.2.2.2.2 dX13_strange_40
  · rw [if_pos c3] at hf
    refine J_aload_n Z.1 0 dX13_strange_17 rfl rfl ?_
    refine J_iconst Z.1 (v := 2) (by decide) dX13_strange_18 ?_
    replace hf := bd2_i hf
    obtain ⟨x18, h16, q17, hf⟩ := hf
    refine J_callV (ci := 11) (as := [.int 2]) (rest := []) (sy := [.int x18]) Z.1 dX13_strange_19 cw_X13_268 (pX13_refuse_ok G (dk - 1) (by omega) q17) rfl rfl t0 (zG Z) rfl (by decide) (zF Z (by omega)) (zO Z (by omega) (by decide)) (zM _) Z.2.1 Z.2.1 rfl rfl ?_
    cases hf
    exact J_iret Z.1 Z.2.2.2.2.2 dX13_strange_22
