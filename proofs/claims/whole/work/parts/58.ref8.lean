/-! written by wip/whole/gen.py out of the printed bytecode -/
theorem dX13_ran_0 : decode cX13_ran 0 = .ok (.aload_n 0, 1) := by decide +kernel
theorem dX13_ran_1 : decode cX13_ran 1 = .ok (.iconst 0, 1) := by decide +kernel
theorem dX13_ran_2 : decode cX13_ran 2 = .ok (.putfield 71, 3) := by decide +kernel
theorem dX13_ran_5 : decode cX13_ran 5 = .ok (.aload_n 0, 1) := by decide +kernel
theorem dX13_ran_6 : decode cX13_ran 6 = .ok (.iconst 0, 1) := by decide +kernel
theorem dX13_ran_7 : decode cX13_ran 7 = .ok (.putfield 74, 3) := by decide +kernel
theorem dX13_ran_10 : decode cX13_ran 10 = .ok (.iload_n 1, 1) := by decide +kernel
theorem dX13_ran_11 : decode cX13_ran 11 = .ok (.i2l, 1) := by decide +kernel
theorem dX13_ran_12 : decode cX13_ran 12 = .ok (.lconst 0, 1) := by decide +kernel
theorem dX13_ran_13 : decode cX13_ran 13 = .ok (.ldc2_w 275, 3) := by decide +kernel
theorem dX13_ran_16 : decode cX13_ran 16 = .ok (.invokestatic 104, 3) := by decide +kernel
theorem dX13_ran_19 : decode cX13_ran 19 = .ok (.ifCond .ne 9, 3) := by decide +kernel
theorem dX13_ran_22 : decode cX13_ran 22 = .ok (.aload_n 0, 1) := by decide +kernel
theorem dX13_ran_23 : decode cX13_ran 23 = .ok (.iconst 5, 1) := by decide +kernel
theorem dX13_ran_24 : decode cX13_ran 24 = .ok (.invokevirtual 268, 3) := by decide +kernel
theorem dX13_ran_27 : decode cX13_ran 27 = .ok (.ireturn, 1) := by decide +kernel
theorem dX13_ran_28 : decode cX13_ran 28 = .ok (.aload_n 0, 1) := by decide +kernel
theorem dX13_ran_29 : decode cX13_ran 29 = .ok (.getfield 538, 3) := by decide +kernel
theorem dX13_ran_32 : decode cX13_ran 32 = .ok (.ifCond .eq 16, 3) := by decide +kernel
theorem dX13_ran_35 : decode cX13_ran 35 = .ok (.aload_n 0, 1) := by decide +kernel
theorem dX13_ran_36 : decode cX13_ran 36 = .ok (.aload_n 0, 1) := by decide +kernel
theorem dX13_ran_37 : decode cX13_ran 37 = .ok (.getfield 59, 3) := by decide +kernel
theorem dX13_ran_40 : decode cX13_ran 40 = .ok (.iload_n 1, 1) := by decide +kernel
theorem dX13_ran_41 : decode cX13_ran 41 = .ok (.iaload, 1) := by decide +kernel
theorem dX13_ran_42 : decode cX13_ran 42 = .ok (.invokevirtual 541, 3) := by decide +kernel
theorem dX13_ran_45 : decode cX13_ran 45 = .ok (.goto 9, 3) := by decide +kernel
theorem dX13_ran_48 : decode cX13_ran 48 = .ok (.aload_n 0, 1) := by decide +kernel
theorem dX13_ran_49 : decode cX13_ran 49 = .ok (.bipush 8, 2) := by decide +kernel
theorem dX13_ran_51 : decode cX13_ran 51 = .ok (.invokevirtual 268, 3) := by decide +kernel
theorem dX13_ran_54 : decode cX13_ran 54 = .ok (.ireturn, 1) := by decide +kernel
def pX13_ran (g : MT) (h : CT) (this : Nat) (p1 : Int32) : Option ((Int32) × CT) := tg g this 12 (lt (sI h this 1 0) fun h1 => (lt (sI h1 this 0 0) fun h2 => (if (pX13_isIn (Int32.toInt64 p1) 0 5) = 0 then bd2 (pX13_refuse g h2 this 5) fun x16 h14 => (some (x16, h14)) else if (hI h2 this 41) = 0 then bd2 (pX13_refuse g h2 this 8) fun x7 h5 => (some (x7, h5)) else lt (hR h2 this 45) fun r8 => (nn r8 fun a8 => (tg g a8 20 (ix (gL g a8) p1 (bd2 (pX13_answer g h2 this (hI h2 a8 (Int32.toNatClampNeg p1))) fun x13 h11 => (some (x13, h11)))))))))
set_option maxRecDepth 10000 in
set_option maxHeartbeats 4000000 in
theorem pX13_ran_ok (G : Gx) (dk : Nat) (hK : 2 ≤ dk) {g : MT} {h h0 : CT} {this : Nat} {p1 : Int32} {r0 : Int32} (hf : pX13_ran g h this p1 = some (r0, h0)) : Ctr G dk yX13_ran cX13_ran 2 (some .int) [va_rf (some this), .int p1] g h (some (.int r0)) g h0 := by
  refine Ctr.ofZ (lv := [(0, va_rf (some this)), (1, .int p1)]) (by decide +kernel) (by simp [cat_i, cat_l, cat_d, cat_rf]) rfl fun X Z => ?_
  unfold pX13_ran at hf
  replace hf := tg_i hf
  obtain ⟨t0, hf⟩ := hf
  refine J_aload_n Z.1 0 dX13_ran_0 rfl rfl ?_
  refine J_iconst Z.1 (v := 0) (by decide) dX13_ran_1 ?_
  refine J_putI Z.1 dX13_ran_2 fl_X13_71 (fun q => by cases q) t0 rfl rfl (congrArg Value.int (hI_s _ _ _ _)) ?_
  refine J_th (fun h1 eh1 => ?_)
  replace hf := lt_i hf h1 eh1
  refine J_aload_n Z.1 0 dX13_ran_5 rfl rfl ?_
  refine J_iconst Z.1 (v := 0) (by decide) dX13_ran_6 ?_
  refine J_putI Z.1 dX13_ran_7 fl_X13_74 (fun q => by cases q) t0 rfl rfl (congrArg Value.int (hI_s _ _ _ _)) ?_
  refine J_th (fun h2 eh2 => ?_)
  replace hf := lt_i hf h2 eh2
  refine J_iload_n Z.1 1 dX13_ran_10 rfl rfl ?_
  refine J_i2l Z.1 dX13_ran_11 ?_
  refine J_lconst Z.1 (v := 0) (by decide) dX13_ran_12 ?_
  refine J_ldc2 Z.1 q_1749 dX13_ran_13 ?_
  refine J_callS (as := [.long (Int32.toInt64 p1), .long 0, .long 5]) (rest := []) (sy := [.int (pX13_isIn (Int32.toInt64 p1) 0 5)]) Z.1 dX13_ran_16 cw_X13_104 (pX13_isIn_ok G (dk - 1) (by omega) g h2 (Int32.toInt64 p1) 0 5) (zG Z) rfl (by decide) (zF Z (by omega)) (zO Z (by omega) (by decide)) (zM _) Z.2.1 Z.2.1 rfl rfl ?_
  refine J_if_ne Z.1 28 dX13_ran_19 (by decide) (fun c3 => ?_) (fun c3 => ?_)
  · rw [if_neg c3] at hf
    refine J_aload_n Z.1 0 dX13_ran_28 rfl rfl ?_
    refine J_get (v := .int (hI h2 this 41)) Z.1 dX13_ran_29 fl_X13_538 t0 rfl ?_
    refine J_if_eq Z.1 48 dX13_ran_32 (by decide) (fun c4 => ?_) (fun c4 => ?_)
    · rw [if_pos c4] at hf
      refine J_aload_n Z.1 0 dX13_ran_48 rfl rfl ?_
      refine J_bipush Z.1 (v := 8) (by decide) dX13_ran_49 ?_
      replace hf := bd2_i hf
      obtain ⟨x7, h5, q6, hf⟩ := hf
      refine J_callV (ci := 11) (as := [.int 8]) (rest := []) (sy := [.int x7]) Z.1 dX13_ran_51 cw_X13_268 (pX13_refuse_ok G (dk - 1) (by omega) q6) rfl rfl t0 (zG Z) rfl (by decide) (zF Z (by omega)) (zO Z (by omega) (by decide)) (zM _) Z.2.1 Z.2.1 rfl rfl ?_
      cases hf
      exact J_iret Z.1 Z.2.2.2.2.2 dX13_ran_54
    · rw [if_neg c4] at hf
      refine J_aload_n Z.1 0 dX13_ran_35 rfl rfl ?_
      refine J_aload_n Z.1 0 dX13_ran_36 rfl rfl ?_
      refine J_get (v := va_rf (hR h2 this 45)) Z.1 dX13_ran_37 fl_X13_59 t0 rfl ?_
      refine J_tr (fun r8 er8 => ?_)
      replace hf := lt_i hf r8 er8
      refine J_iload_n Z.1 1 dX13_ran_40 rfl rfl ?_
      replace hf := nn_i hf
      obtain ⟨a8, rfl, hf⟩ := hf
      replace hf := tg_i hf
      obtain ⟨t9, hf⟩ := hf
      replace hf := ix_i hf
      obtain ⟨i10, hf⟩ := hf
      refine J_iaload Z.1 dX13_ran_41 t9 i10 ?_
      replace hf := bd2_i hf
      obtain ⟨x13, h11, q12, hf⟩ := hf
      refine J_callV (ci := 11) (as := [.int (hI h2 a8 (Int32.toNatClampNeg p1))]) (rest := []) (sy := [.int x13]) Z.1 dX13_ran_42 cw_X13_541 (pX13_answer_ok G (dk - 1) (by omega) q12) rfl rfl t0 (zG Z) rfl (by decide) (zF Z (by omega)) (zO Z (by omega) (by decide)) (zM _) Z.2.1 Z.2.1 rfl rfl ?_
      refine J_goto Z.1 54 dX13_ran_45 (by decide) ?_
      cases hf
      exact J_iret Z.1 Z.2.2.2.2.2 dX13_ran_54
  · rw [if_pos c3] at hf
    refine J_aload_n Z.1 0 dX13_ran_22 rfl rfl ?_
    refine J_iconst Z.1 (v := 5) (by decide) dX13_ran_23 ?_
    replace hf := bd2_i hf
    obtain ⟨x16, h14, q15, hf⟩ := hf
    refine J_callV (ci := 11) (as := [.int 5]) (rest := []) (sy := [.int x16]) Z.1 dX13_ran_24 cw_X13_268 (pX13_refuse_ok G (dk - 1) (by omega) q15) rfl rfl t0 (zG Z) rfl (by decide) (zF Z (by omega)) (zO Z (by omega) (by decide)) (zM _) Z.2.1 Z.2.1 rfl rfl ?_
    cases hf
    exact J_iret Z.1 Z.2.2.2.2.2 dX13_ran_27
theorem dX13_time_0 : decode cX13_time 0 = .ok (.aload_n 0, 1) := by decide +kernel
theorem dX13_time_1 : decode cX13_time 1 = .ok (.iconst 0, 1) := by decide +kernel
theorem dX13_time_2 : decode cX13_time 2 = .ok (.putfield 71, 3) := by decide +kernel
theorem dX13_time_5 : decode cX13_time 5 = .ok (.aload_n 0, 1) := by decide +kernel
theorem dX13_time_6 : decode cX13_time 6 = .ok (.iconst 0, 1) := by decide +kernel
theorem dX13_time_7 : decode cX13_time 7 = .ok (.putfield 74, 3) := by decide +kernel
theorem dX13_time_10 : decode cX13_time 10 = .ok (.aload_n 0, 1) := by decide +kernel
theorem dX13_time_11 : decode cX13_time 11 = .ok (.iload_n 1, 1) := by decide +kernel
theorem dX13_time_12 : decode cX13_time 12 = .ok (.invokevirtual 544, 3) := by decide +kernel
theorem dX13_time_15 : decode cX13_time 15 = .ok (.ifCond .ne 9, 3) := by decide +kernel
theorem dX13_time_18 : decode cX13_time 18 = .ok (.aload_n 0, 1) := by decide +kernel
theorem dX13_time_19 : decode cX13_time 19 = .ok (.iconst 2, 1) := by decide +kernel
theorem dX13_time_20 : decode cX13_time 20 = .ok (.invokevirtual 268, 3) := by decide +kernel
theorem dX13_time_23 : decode cX13_time 23 = .ok (.ireturn, 1) := by decide +kernel
theorem dX13_time_24 : decode cX13_time 24 = .ok (.iload_n 2, 1) := by decide +kernel
theorem dX13_time_25 : decode cX13_time 25 = .ok (.i2l, 1) := by decide +kernel
theorem dX13_time_26 : decode cX13_time 26 = .ok (.lconst 0, 1) := by decide +kernel
theorem dX13_time_27 : decode cX13_time 27 = .ok (.lconst 1, 1) := by decide +kernel
theorem dX13_time_28 : decode cX13_time 28 = .ok (.invokestatic 104, 3) := by decide +kernel
theorem dX13_time_31 : decode cX13_time 31 = .ok (.ifCond .ne 9, 3) := by decide +kernel
theorem dX13_time_34 : decode cX13_time 34 = .ok (.aload_n 0, 1) := by decide +kernel
theorem dX13_time_35 : decode cX13_time 35 = .ok (.iconst 5, 1) := by decide +kernel
theorem dX13_time_36 : decode cX13_time 36 = .ok (.invokevirtual 268, 3) := by decide +kernel
theorem dX13_time_39 : decode cX13_time 39 = .ok (.ireturn, 1) := by decide +kernel
theorem dX13_time_40 : decode cX13_time 40 = .ok (.aload_n 0, 1) := by decide +kernel
theorem dX13_time_41 : decode cX13_time 41 = .ok (.getfield 271, 3) := by decide +kernel
theorem dX13_time_44 : decode cX13_time 44 = .ok (.ifCond .eq 12, 3) := by decide +kernel
theorem dX13_time_47 : decode cX13_time 47 = .ok (.aload_n 0, 1) := by decide +kernel
theorem dX13_time_48 : decode cX13_time 48 = .ok (.getfield 62, 3) := by decide +kernel
theorem dX13_time_51 : decode cX13_time 51 = .ok (.iload_n 1, 1) := by decide +kernel
theorem dX13_time_52 : decode cX13_time 52 = .ok (.iaload, 1) := by decide +kernel
theorem dX13_time_53 : decode cX13_time 53 = .ok (.ifCond .ge 10, 3) := by decide +kernel
theorem dX13_time_56 : decode cX13_time 56 = .ok (.aload_n 0, 1) := by decide +kernel
theorem dX13_time_57 : decode cX13_time 57 = .ok (.bipush 8, 2) := by decide +kernel
theorem dX13_time_59 : decode cX13_time 59 = .ok (.invokevirtual 268, 3) := by decide +kernel
theorem dX13_time_62 : decode cX13_time 62 = .ok (.ireturn, 1) := by decide +kernel
theorem dX13_time_63 : decode cX13_time 63 = .ok (.iload_n 2, 1) := by decide +kernel
theorem dX13_time_64 : decode cX13_time 64 = .ok (.ifCond .ne 12, 3) := by decide +kernel
theorem dX13_time_67 : decode cX13_time 67 = .ok (.aload_n 0, 1) := by decide +kernel
theorem dX13_time_68 : decode cX13_time 68 = .ok (.getfield 62, 3) := by decide +kernel
theorem dX13_time_71 : decode cX13_time 71 = .ok (.iload_n 1, 1) := by decide +kernel
theorem dX13_time_72 : decode cX13_time 72 = .ok (.iaload, 1) := by decide +kernel
theorem dX13_time_73 : decode cX13_time 73 = .ok (.goto 13, 3) := by decide +kernel
theorem dX13_time_76 : decode cX13_time 76 = .ok (.aload_n 0, 1) := by decide +kernel
theorem dX13_time_77 : decode cX13_time 77 = .ok (.aload_n 0, 1) := by decide +kernel
theorem dX13_time_78 : decode cX13_time 78 = .ok (.getfield 65, 3) := by decide +kernel
theorem dX13_time_81 : decode cX13_time 81 = .ok (.iload_n 1, 1) := by decide +kernel
theorem dX13_time_82 : decode cX13_time 82 = .ok (.iaload, 1) := by decide +kernel
theorem dX13_time_83 : decode cX13_time 83 = .ok (.invokevirtual 541, 3) := by decide +kernel
theorem dX13_time_86 : decode cX13_time 86 = .ok (.ireturn, 1) := by decide +kernel
def pX13_time_b56 (g : MT) (this : Nat) (p1 : Int32) (p2 : Int32) (h : CT) : Option ((Int32) × CT) := bd2 (pX13_refuse g h this 8) fun x3 h1 => (some (x3, h1))
set_option maxRecDepth 10000 in
set_option maxHeartbeats 4000000 in
theorem pX13_time_b56_ok {X : Cx} {G : Gx} {dk : Nat} {g : MT} {r0 : Int32} {h0 : CT} {this : Nat} {p1 : Int32} {p2 : Int32} (Z : Zx X G cX13_time RX13 3 dk (some .int) (some (.int r0)) g h0) (hK : 2 ≤ dk) (t0 : gT g this = 12) (h : CT) (hf : pX13_time_b56 g this p1 p2 h = some (r0, h0)) : J X g h 56 [(0, va_rf (some this))] [] := by
  unfold pX13_time_b56 at hf
  refine J_aload_n Z.1 0 dX13_time_56 rfl rfl ?_
  refine J_bipush Z.1 (v := 8) (by decide) dX13_time_57 ?_
  replace hf := bd2_i hf
  obtain ⟨x3, h1, q2, hf⟩ := hf
  refine J_callV (ci := 11) (as := [.int 8]) (rest := []) (sy := [.int x3]) Z.1 dX13_time_59 cw_X13_268 (pX13_refuse_ok G (dk - 1) (by omega) q2) rfl rfl t0 (zG Z) rfl (by decide) (zF Z (by omega)) (zO Z (by omega) (by decide)) (zM _) Z.2.1 Z.2.1 rfl rfl ?_
  cases hf
  exact J_iret Z.1 Z.2.2.2.2.2 dX13_time_62
def pX13_time (g : MT) (h : CT) (this : Nat) (p1 : Int32) (p2 : Int32) : Option ((Int32) × CT) := tg g this 12 (lt (sI h this 1 0) fun h1 => (lt (sI h1 this 0 0) fun h2 => (bd (pX13_isCode g h2 this p1) fun x3 => (if x3 = 0 then bd2 (pX13_refuse g h2 this 2) fun x27 h25 => (some (x27, h25)) else if (pX13_isIn (Int32.toInt64 p2) 0 1) = 0 then bd2 (pX13_refuse g h2 this 5) fun x24 h22 => (some (x24, h22)) else if (hI h2 this 22) = 0 then pX13_time_b56 g this p1 p2  h2 else lt (hR h2 this 46) fun r8 => (nn r8 fun a8 => (tg g a8 20 (ix (gL g a8) p1 (if 0 ≤ (hI h2 a8 (Int32.toNatClampNeg p1)) then if p2 = 0 then lt (hR h2 this 46) fun r19 => (nn r19 fun a19 => (tg g a19 20 (ix (gL g a19) p1 (some ((hI h2 a19 (Int32.toNatClampNeg p1)), h2))))) else lt (hR h2 this 47) fun r13 => (nn r13 fun a13 => (tg g a13 20 (ix (gL g a13) p1 (bd2 (pX13_answer g h2 this (hI h2 a13 (Int32.toNatClampNeg p1))) fun x18 h16 => (some (x18, h16)))))) else pX13_time_b56 g this p1 p2  h2))))))))
set_option maxRecDepth 10000 in
set_option maxHeartbeats 4000000 in
theorem pX13_time_ok (G : Gx) (dk : Nat) (hK : 2 ≤ dk) {g : MT} {h h0 : CT} {this : Nat} {p1 : Int32} {p2 : Int32} {r0 : Int32} (hf : pX13_time g h this p1 p2 = some (r0, h0)) : Ctr G dk yX13_time cX13_time 3 (some .int) [va_rf (some this), .int p1, .int p2] g h (some (.int r0)) g h0 := by
  refine Ctr.ofZ (lv := [(0, va_rf (some this)), (1, .int p1), (2, .int p2)]) (by decide +kernel) (by simp [cat_i, cat_l, cat_d, cat_rf]) rfl fun X Z => ?_
  unfold pX13_time at hf
  replace hf := tg_i hf
  obtain ⟨t0, hf⟩ := hf
  refine J_aload_n Z.1 0 dX13_time_0 rfl rfl ?_
  refine J_iconst Z.1 (v := 0) (by decide) dX13_time_1 ?_
  refine J_putI Z.1 dX13_time_2 fl_X13_71 (fun q => by cases q) t0 rfl rfl (congrArg Value.int (hI_s _ _ _ _)) ?_
  refine J_th (fun h1 eh1 => ?_)
  replace hf := lt_i hf h1 eh1
  refine J_aload_n Z.1 0 dX13_time_5 rfl rfl ?_
  refine J_iconst Z.1 (v := 0) (by decide) dX13_time_6 ?_
  refine J_putI Z.1 dX13_time_7 fl_X13_74 (fun q => by cases q) t0 rfl rfl (congrArg Value.int (hI_s _ _ _ _)) ?_
  refine J_th (fun h2 eh2 => ?_)
  replace hf := lt_i hf h2 eh2
  refine J_aload_n Z.1 0 dX13_time_10 rfl rfl ?_
  refine J_iload_n Z.1 1 dX13_time_11 rfl rfl ?_
  replace hf := bd_i hf
  obtain ⟨x3, q4, hf⟩ := hf
  refine J_callV (ci := 11) (as := [.int p1]) (rest := []) (sy := [.int x3]) Z.1 dX13_time_12 cw_X13_544 (pX13_isCode_ok G (dk - 1) (by omega) q4) rfl rfl t0 (zG Z) rfl (by decide) (zF Z (by omega)) (zO Z (by omega) (by decide)) (zM _) Z.2.1 Z.2.1 rfl rfl ?_
  refine J_if_ne Z.1 24 dX13_time_15 (by decide) (fun c5 => ?_) (fun c5 => ?_)
  · rw [if_neg c5] at hf
    refine J_iload_n Z.1 2 dX13_time_24 rfl rfl ?_
    refine J_i2l Z.1 dX13_time_25 ?_
    refine J_lconst Z.1 (v := 0) (by decide) dX13_time_26 ?_
    refine J_lconst Z.1 (v := 1) (by decide) dX13_time_27 ?_
    refine J_callS (as := [.long (Int32.toInt64 p2), .long 0, .long 1]) (rest := []) (sy := [.int (pX13_isIn (Int32.toInt64 p2) 0 1)]) Z.1 dX13_time_28 cw_X13_104 (pX13_isIn_ok G (dk - 1) (by omega) g h2 (Int32.toInt64 p2) 0 1) (zG Z) rfl (by decide) (zF Z (by omega)) (zO Z (by omega) (by decide)) (zM _) Z.2.1 Z.2.1 rfl rfl ?_
    refine J_if_ne Z.1 40 dX13_time_31 (by decide) (fun c6 => ?_) (fun c6 => ?_)
    · rw [if_neg c6] at hf
      refine J_aload_n Z.1 0 dX13_time_40 rfl rfl ?_
      refine J_get (v := .int (hI h2 this 22)) Z.1 dX13_time_41 fl_X13_271 t0 rfl ?_
      refine J_if_eq Z.1 56 dX13_time_44 (by decide) (fun c7 => ?_) (fun c7 => ?_)
      · rw [if_pos c7] at hf
        refine J_lv [0] rfl ?_
        exact pX13_time_b56_ok Z hK t0  _ hf
      · rw [if_neg c7] at hf
        refine J_aload_n Z.1 0 dX13_time_47 rfl rfl ?_
        refine J_get (v := va_rf (hR h2 this 46)) Z.1 dX13_time_48 fl_X13_62 t0 rfl ?_
        refine J_tr (fun r8 er8 => ?_)
        replace hf := lt_i hf r8 er8
        refine J_iload_n Z.1 1 dX13_time_51 rfl rfl ?_
        replace hf := nn_i hf
        obtain ⟨a8, rfl, hf⟩ := hf
        replace hf := tg_i hf
        obtain ⟨t9, hf⟩ := hf
        replace hf := ix_i hf
        obtain ⟨i10, hf⟩ := hf
        refine J_iaload Z.1 dX13_time_52 t9 i10 ?_
        refine J_if_ge Z.1 63 dX13_time_53 (by decide) (fun c11 => ?_) (fun c11 => ?_)
        · rw [if_pos c11] at hf
          refine J_iload_n Z.1 2 dX13_time_63 rfl rfl ?_
          refine J_if_ne Z.1 76 dX13_time_64 (by decide) (fun c12 => ?_) (fun c12 => ?_)
          · rw [if_neg c12] at hf
            refine J_aload_n Z.1 0 dX13_time_76 rfl rfl ?_
            refine J_aload_n Z.1 0 dX13_time_77 rfl rfl ?_
            refine J_get (v := va_rf (hR h2 this 47)) Z.1 dX13_time_78 fl_X13_65 t0 rfl ?_
            refine J_tr (fun r13 er13 => ?_)
            replace hf := lt_i hf r13 er13
            refine J_iload_n Z.1 1 dX13_time_81 rfl rfl ?_
            replace hf := nn_i hf
            obtain ⟨a13, rfl, hf⟩ := hf
            replace hf := tg_i hf
            obtain ⟨t14, hf⟩ := hf
            replace hf := ix_i hf
            obtain ⟨i15, hf⟩ := hf
            refine J_iaload Z.1 dX13_time_82 t14 i15 ?_
            replace hf := bd2_i hf
            obtain ⟨x18, h16, q17, hf⟩ := hf
            refine J_callV (ci := 11) (as := [.int (hI h2 a13 (Int32.toNatClampNeg p1))]) (rest := []) (sy := [.int x18]) Z.1 dX13_time_83 cw_X13_541 (pX13_answer_ok G (dk - 1) (by omega) q17) rfl rfl t0 (zG Z) rfl (by decide) (zF Z (by omega)) (zO Z (by omega) (by decide)) (zM _) Z.2.1 Z.2.1 rfl rfl ?_
            cases hf
            exact J_iret Z.1 Z.2.2.2.2.2 dX13_time_86
          · rw [if_pos c12] at hf
            refine J_aload_n Z.1 0 dX13_time_67 rfl rfl ?_
            refine J_get (v := va_rf (hR h2 this 46)) Z.1 dX13_time_68 fl_X13_62 t0 rfl ?_
            refine J_tr (fun r19 er19 => ?_)
            replace hf := lt_i hf r19 er19
            refine J_iload_n Z.1 1 dX13_time_71 rfl rfl ?_
            replace hf := nn_i hf
            obtain ⟨a19, rfl, hf⟩ := hf
            replace hf := tg_i hf
            obtain ⟨t20, hf⟩ := hf
            replace hf := ix_i hf
            obtain ⟨i21, hf⟩ := hf
            refine J_iaload Z.1 dX13_time_72 t20 i21 ?_
            refine J_goto Z.1 86 dX13_time_73 (by decide) ?_
            cases hf
            exact J_iret Z.1 Z.2.2.2.2.2 dX13_time_86
        · rw [if_neg c11] at hf
          refine J_lv [0] rfl ?_
          exact pX13_time_b56_ok Z hK t0  _ hf
    · rw [if_pos c6] at hf
      refine J_aload_n Z.1 0 dX13_time_34 rfl rfl ?_
      refine J_iconst Z.1 (v := 5) (by decide) dX13_time_35 ?_
      replace hf := bd2_i hf
      obtain ⟨x24, h22, q23, hf⟩ := hf
      refine J_callV (ci := 11) (as := [.int 5]) (rest := []) (sy := [.int x24]) Z.1 dX13_time_36 cw_X13_268 (pX13_refuse_ok G (dk - 1) (by omega) q23) rfl rfl t0 (zG Z) rfl (by decide) (zF Z (by omega)) (zO Z (by omega) (by decide)) (zM _) Z.2.1 Z.2.1 rfl rfl ?_
      cases hf
      exact J_iret Z.1 Z.2.2.2.2.2 dX13_time_39
  · rw [if_pos c5] at hf
    refine J_aload_n Z.1 0 dX13_time_18 rfl rfl ?_
    refine J_iconst Z.1 (v := 2) (by decide) dX13_time_19 ?_
    replace hf := bd2_i hf
    obtain ⟨x27, h25, q26, hf⟩ := hf
    refine J_callV (ci := 11) (as := [.int 2]) (rest := []) (sy := [.int x27]) Z.1 dX13_time_20 cw_X13_268 (pX13_refuse_ok G (dk - 1) (by omega) q26) rfl rfl t0 (zG Z) rfl (by decide) (zF Z (by omega)) (zO Z (by omega) (by decide)) (zM _) Z.2.1 Z.2.1 rfl rfl ?_
    cases hf
    exact J_iret Z.1 Z.2.2.2.2.2 dX13_time_23
theorem dX13_summed_0 : decode cX13_summed 0 = .ok (.aload_n 0, 1) := by decide +kernel
theorem dX13_summed_1 : decode cX13_summed 1 = .ok (.getfield 31, 3) := by decide +kernel
theorem dX13_summed_4 : decode cX13_summed 4 = .ok (.iconst 0, 1) := by decide +kernel
theorem dX13_summed_5 : decode cX13_summed 5 = .ok (.iaload, 1) := by decide +kernel
theorem dX13_summed_6 : decode cX13_summed 6 = .ok (.istore_n 3, 1) := by decide +kernel
theorem dX13_summed_7 : decode cX13_summed 7 = .ok (.iload_n 3, 1) := by decide +kernel
theorem dX13_summed_8 : decode cX13_summed 8 = .ok (.ifCond .ne 5, 3) := by decide +kernel
theorem dX13_summed_11 : decode cX13_summed 11 = .ok (.dconst 0, 1) := by decide +kernel
theorem dX13_summed_12 : decode cX13_summed 12 = .ok (.dreturn, 1) := by decide +kernel
theorem dX13_summed_13 : decode cX13_summed 13 = .ok (.iload_n 2, 1) := by decide +kernel
theorem dX13_summed_14 : decode cX13_summed 14 = .ok (.iconst 2, 1) := by decide +kernel
theorem dX13_summed_15 : decode cX13_summed 15 = .ok (.if_icmp .ne 11, 3) := by decide +kernel
theorem dX13_summed_18 : decode cX13_summed 18 = .ok (.aload_n 0, 1) := by decide +kernel
theorem dX13_summed_19 : decode cX13_summed 19 = .ok (.iload_n 1, 1) := by decide +kernel
theorem dX13_summed_20 : decode cX13_summed 20 = .ok (.iload_n 3, 1) := by decide +kernel
theorem dX13_summed_21 : decode cX13_summed 21 = .ok (.iconst 1, 1) := by decide +kernel
theorem dX13_summed_22 : decode cX13_summed 22 = .ok (.invokevirtual 490, 3) := by decide +kernel
theorem dX13_summed_25 : decode cX13_summed 25 = .ok (.dreturn, 1) := by decide +kernel
theorem dX13_summed_26 : decode cX13_summed 26 = .ok (.aload_n 0, 1) := by decide +kernel
theorem dX13_summed_27 : decode cX13_summed 27 = .ok (.getfield 34, 3) := by decide +kernel
theorem dX13_summed_30 : decode cX13_summed 30 = .ok (.bipush 16, 2) := by decide +kernel
theorem dX13_summed_32 : decode cX13_summed 32 = .ok (.iload_n 1, 1) := by decide +kernel
theorem dX13_summed_33 : decode cX13_summed 33 = .ok (.imul, 1) := by decide +kernel
theorem dX13_summed_34 : decode cX13_summed 34 = .ok (.iload_n 2, 1) := by decide +kernel
theorem dX13_summed_35 : decode cX13_summed 35 = .ok (.ifCond .ne 7, 3) := by decide +kernel
theorem dX13_summed_38 : decode cX13_summed 38 = .ok (.iconst 0, 1) := by decide +kernel
theorem dX13_summed_39 : decode cX13_summed 39 = .ok (.goto 6, 3) := by decide +kernel
theorem dX13_summed_42 : decode cX13_summed 42 = .ok (.iload_n 3, 1) := by decide +kernel
theorem dX13_summed_43 : decode cX13_summed 43 = .ok (.iconst 1, 1) := by decide +kernel
theorem dX13_summed_44 : decode cX13_summed 44 = .ok (.isub, 1) := by decide +kernel
theorem dX13_summed_45 : decode cX13_summed 45 = .ok (.iadd, 1) := by decide +kernel
theorem dX13_summed_46 : decode cX13_summed 46 = .ok (.daload, 1) := by decide +kernel
theorem dX13_summed_47 : decode cX13_summed 47 = .ok (.dstore 4, 2) := by decide +kernel
theorem dX13_summed_49 : decode cX13_summed 49 = .ok (.iconst 1, 1) := by decide +kernel
theorem dX13_summed_50 : decode cX13_summed 50 = .ok (.istore 6, 2) := by decide +kernel
theorem dX13_summed_52 : decode cX13_summed 52 = .ok (.iload 6, 2) := by decide +kernel
theorem dX13_summed_54 : decode cX13_summed 54 = .ok (.iload_n 3, 1) := by decide +kernel
theorem dX13_summed_55 : decode cX13_summed 55 = .ok (.if_icmp .ge 39, 3) := by decide +kernel
theorem dX13_summed_58 : decode cX13_summed 58 = .ok (.dload 4, 2) := by decide +kernel
theorem dX13_summed_60 : decode cX13_summed 60 = .ok (.aload_n 0, 1) := by decide +kernel
theorem dX13_summed_61 : decode cX13_summed 61 = .ok (.getfield 34, 3) := by decide +kernel
theorem dX13_summed_64 : decode cX13_summed 64 = .ok (.bipush 16, 2) := by decide +kernel
theorem dX13_summed_66 : decode cX13_summed 66 = .ok (.iload_n 1, 1) := by decide +kernel
theorem dX13_summed_67 : decode cX13_summed 67 = .ok (.imul, 1) := by decide +kernel
theorem dX13_summed_68 : decode cX13_summed 68 = .ok (.iload_n 2, 1) := by decide +kernel
theorem dX13_summed_69 : decode cX13_summed 69 = .ok (.ifCond .ne 8, 3) := by decide +kernel
theorem dX13_summed_72 : decode cX13_summed 72 = .ok (.iload 6, 2) := by decide +kernel
theorem dX13_summed_74 : decode cX13_summed 74 = .ok (.goto 9, 3) := by decide +kernel
theorem dX13_summed_77 : decode cX13_summed 77 = .ok (.iload_n 3, 1) := by decide +kernel
theorem dX13_summed_78 : decode cX13_summed 78 = .ok (.iconst 1, 1) := by decide +kernel
theorem dX13_summed_79 : decode cX13_summed 79 = .ok (.isub, 1) := by decide +kernel
theorem dX13_summed_80 : decode cX13_summed 80 = .ok (.iload 6, 2) := by decide +kernel
theorem dX13_summed_82 : decode cX13_summed 82 = .ok (.isub, 1) := by decide +kernel
theorem dX13_summed_83 : decode cX13_summed 83 = .ok (.iadd, 1) := by decide +kernel
theorem dX13_summed_84 : decode cX13_summed 84 = .ok (.daload, 1) := by decide +kernel
theorem dX13_summed_85 : decode cX13_summed 85 = .ok (.dadd, 1) := by decide +kernel
theorem dX13_summed_86 : decode cX13_summed 86 = .ok (.dstore 4, 2) := by decide +kernel
theorem dX13_summed_88 : decode cX13_summed 88 = .ok (.iinc 6 1, 3) := by decide +kernel
theorem dX13_summed_91 : decode cX13_summed 91 = .ok (.goto (-39), 3) := by decide +kernel
theorem dX13_summed_94 : decode cX13_summed 94 = .ok (.dload 4, 2) := by decide +kernel
theorem dX13_summed_96 : decode cX13_summed 96 = .ok (.dreturn, 1) := by decide +kernel
def pX13_summed_b83 (g : MT) (this : Nat) (p1 : Int32) (p2 : Int32) (k52 : Int32 → UInt64 → Int32 → CT → Option ((UInt64) × CT)) (l3 : Int32) (l6 : Int32) (s0 : UInt64) (r81 : Option Nat) (s2 : Int32) (s3 : Int32) (h : CT) : Option ((UInt64) × CT) := nn r81 fun a81 => (tg g a81 22 (ix (gL g a81) (s2 + s3) (lt (fadd s0 (hD h a81 (Int32.toNatClampNeg (s2 + s3)))) fun x3 => (lt (l6 + 1) fun x4 => (k52 l3 x3 x4 h)))))
set_option maxRecDepth 10000 in
set_option maxHeartbeats 4000000 in
theorem pX13_summed_b83_ok {X : Cx} {G : Gx} {dk : Nat} {g : MT} {r0 : UInt64} {h0 : CT} {this : Nat} {p1 : Int32} {p2 : Int32} {k52 : Int32 → UInt64 → Int32 → CT → Option ((UInt64) × CT)} (Z : Zx X G cX13_summed RX13 7 dk (some .double) (some (.double r0)) g h0) (hK : 2 ≤ dk) (t0 : gT g this = 12) (hk52 : ∀ (l3 : Int32) (l4 : UInt64) (l6 : Int32) (h : CT), k52 l3 l4 l6 h = some (r0, h0) → J X g h 52 [(0, va_rf (some this)), (1, .int p1), (2, .int p2), (3, .int l3), (4, .double l4), (6, .int l6)] []) (l3 : Int32) (l6 : Int32) (s0 : UInt64) (r81 : Option Nat) (s2 : Int32) (s3 : Int32) (h : CT) (hf : pX13_summed_b83 g this p1 p2 k52 l3 l6 s0 r81 s2 s3 h = some (r0, h0)) : J X g h 83 [(0, va_rf (some this)), (1, .int p1), (2, .int p2), (3, .int l3), (6, .int l6)] [.int s3, .int s2, va_rf r81, .double s0] := by
  unfold pX13_summed_b83 at hf
  refine J_iadd Z.1 dX13_summed_83 ?_
  replace hf := nn_i hf
  obtain ⟨a81, rfl, hf⟩ := hf
  replace hf := tg_i hf
  obtain ⟨t1, hf⟩ := hf
  replace hf := ix_i hf
  obtain ⟨i2, hf⟩ := hf
  refine J_daload Z.1 dX13_summed_84 t1 i2 ?_
  refine J_dadd Z.1 dX13_summed_85 ?_
  refine J_td (fun x3 ex3 => ?_)
  replace hf := lt_i hf x3 ex3
  refine J_dstore Z.1 (lv2 := [(4, .double x3), (0, va_rf (some this)), (1, .int p1), (2, .int p2), (3, .int l3), (6, .int l6)]) dX13_summed_86 (zL Z (by decide)) rfl ?_
  refine J_iinc Z.1 (v := 1) (lv2 := [(6, .int (l6 + 1)), (4, .double x3), (0, va_rf (some this)), (1, .int p1), (2, .int p2), (3, .int l3)]) 5 dX13_summed_88 rfl (by decide) (zL Z (by decide)) rfl ?_
  obtain ⟨x4, ex4⟩ : ∃ z, z = (l6 + 1) := ⟨_, rfl⟩
  replace hf := lt_i hf x4 ex4
  rw [← ex4]
  refine J_goto Z.1 52 dX13_summed_91 (by decide) ?_
  refine J_lv [2, 3, 4, 5, 1, 0] rfl ?_
  exact hk52 _ _ _ _ hf
def pX13_summed_b52 (g : MT) (this : Nat) (p1 : Int32) (p2 : Int32) (k52 : Int32 → UInt64 → Int32 → CT → Option ((UInt64) × CT)) (l3 : Int32) (l4 : UInt64) (l6 : Int32) (h : CT) : Option ((UInt64) × CT) := if l3 ≤ l6 then some (l4, h) else lt (hR h this 20) fun r2 => (if p2 = 0 then pX13_summed_b83 g this p1 p2 k52 l3 l6 l4 r2 (16 * p1) l6 h else pX13_summed_b83 g this p1 p2 k52 l3 l6 l4 r2 (16 * p1) ((l3 - 1) - l6) h)
set_option maxRecDepth 10000 in
set_option maxHeartbeats 4000000 in
theorem pX13_summed_b52_ok {X : Cx} {G : Gx} {dk : Nat} {g : MT} {r0 : UInt64} {h0 : CT} {this : Nat} {p1 : Int32} {p2 : Int32} {k52 : Int32 → UInt64 → Int32 → CT → Option ((UInt64) × CT)} (Z : Zx X G cX13_summed RX13 7 dk (some .double) (some (.double r0)) g h0) (hK : 2 ≤ dk) (t0 : gT g this = 12) (hk52 : ∀ (l3 : Int32) (l4 : UInt64) (l6 : Int32) (h : CT), k52 l3 l4 l6 h = some (r0, h0) → J X g h 52 [(0, va_rf (some this)), (1, .int p1), (2, .int p2), (3, .int l3), (4, .double l4), (6, .int l6)] []) (l3 : Int32) (l4 : UInt64) (l6 : Int32) (h : CT) (hf : pX13_summed_b52 g this p1 p2 k52 l3 l4 l6 h = some (r0, h0)) : J X g h 52 [(0, va_rf (some this)), (1, .int p1), (2, .int p2), (3, .int l3), (4, .double l4), (6, .int l6)] [] := by
  unfold pX13_summed_b52 at hf
  refine J_iload Z.1 5 dX13_summed_52 rfl ?_
  refine J_iload_n Z.1 3 dX13_summed_54 rfl rfl ?_
  refine J_icmp_ge Z.1 94 dX13_summed_55 (by decide) (fun c1 => ?_) (fun c1 => ?_)
  · rw [if_pos c1] at hf
    refine J_dload Z.1 4 dX13_summed_94 rfl ?_
    cases hf
    exact J_dret Z.1 Z.2.2.2.2.2 dX13_summed_96
  · rw [if_neg c1] at hf
    refine J_dload Z.1 4 dX13_summed_58 rfl ?_
    refine J_aload_n Z.1 0 dX13_summed_60 rfl rfl ?_
    refine J_get (v := va_rf (hR h this 20)) Z.1 dX13_summed_61 fl_X13_34 t0 rfl ?_
    refine J_tr (fun r2 er2 => ?_)
    replace hf := lt_i hf r2 er2
    refine J_bipush Z.1 (v := 16) (by decide) dX13_summed_64 ?_
    refine J_iload_n Z.1 1 dX13_summed_66 rfl rfl ?_
    refine J_imul Z.1 dX13_summed_67 ?_
    refine J_iload_n Z.1 2 dX13_summed_68 rfl rfl ?_
    refine J_if_ne Z.1 77 dX13_summed_69 (by decide) (fun c3 => ?_) (fun c3 => ?_)
    · rw [if_neg c3] at hf
      refine J_iload_n Z.1 3 dX13_summed_77 rfl rfl ?_
      refine J_iconst Z.1 (v := 1) (by decide) dX13_summed_78 ?_
      refine J_isub Z.1 dX13_summed_79 ?_
      refine J_iload Z.1 5 dX13_summed_80 rfl ?_
      refine J_isub Z.1 dX13_summed_82 ?_
      refine J_lv [0, 1, 2, 3, 5] rfl ?_
      exact pX13_summed_b83_ok Z hK t0 hk52 _ _ _ _ _ _ _ hf
    · rw [if_pos c3] at hf
      refine J_iload Z.1 5 dX13_summed_72 rfl ?_
      refine J_goto Z.1 83 dX13_summed_74 (by decide) ?_
      refine J_lv [0, 1, 2, 3, 5] rfl ?_
      exact pX13_summed_b83_ok Z hK t0 hk52 _ _ _ _ _ _ _ hf
def pX13_summed_l52 (g : MT) (this : Nat) (p1 : Int32) (p2 : Int32) : Nat → Int32 → UInt64 → Int32 → CT → Option ((UInt64) × CT)
  | 0, _, _, _, _ => none
  | n + 1, l3, l4, l6, h => pX13_summed_b52 g this p1 p2 (pX13_summed_l52 g this p1 p2 n) l3 l4 l6 h
theorem pX13_summed_l52_ok {X : Cx} {G : Gx} {dk : Nat} {g : MT} {r0 : UInt64} {h0 : CT} {this : Nat} {p1 : Int32} {p2 : Int32} (Z : Zx X G cX13_summed RX13 7 dk (some .double) (some (.double r0)) g h0) (hK : 2 ≤ dk) (t0 : gT g this = 12) : ∀ (n : Nat) (l3 : Int32) (l4 : UInt64) (l6 : Int32) (h : CT), pX13_summed_l52 g this p1 p2 n l3 l4 l6 h = some (r0, h0) → J X g h 52 [(0, va_rf (some this)), (1, .int p1), (2, .int p2), (3, .int l3), (4, .double l4), (6, .int l6)] [] := by
  intro n
  induction n with
  | zero => intro l3 l4 l6 h hf; cases hf
  | succ n ih => intro l3 l4 l6 h hf; exact pX13_summed_b52_ok Z hK t0 ih l3 l4 l6 h hf
def pX13_summed_b45 (g : MT) (this : Nat) (p1 : Int32) (p2 : Int32) (l3 : Int32) (r80 : Option Nat) (s1 : Int32) (s2 : Int32) (h : CT) : Option ((UInt64) × CT) := nn r80 fun a80 => (tg g a80 22 (ix (gL g a80) (s1 + s2) (lt (hD h a80 (Int32.toNatClampNeg (s1 + s2))) fun x3 => (pX13_summed_l52 g this p1 p2  FUEL l3 x3 1 h))))
set_option maxRecDepth 10000 in
set_option maxHeartbeats 4000000 in
theorem pX13_summed_b45_ok {X : Cx} {G : Gx} {dk : Nat} {g : MT} {r0 : UInt64} {h0 : CT} {this : Nat} {p1 : Int32} {p2 : Int32} (Z : Zx X G cX13_summed RX13 7 dk (some .double) (some (.double r0)) g h0) (hK : 2 ≤ dk) (t0 : gT g this = 12) (l3 : Int32) (r80 : Option Nat) (s1 : Int32) (s2 : Int32) (h : CT) (hf : pX13_summed_b45 g this p1 p2 l3 r80 s1 s2 h = some (r0, h0)) : J X g h 45 [(0, va_rf (some this)), (1, .int p1), (2, .int p2), (3, .int l3)] [.int s2, .int s1, va_rf r80] := by
  unfold pX13_summed_b45 at hf
  refine J_iadd Z.1 dX13_summed_45 ?_
  replace hf := nn_i hf
  obtain ⟨a80, rfl, hf⟩ := hf
  replace hf := tg_i hf
  obtain ⟨t1, hf⟩ := hf
  replace hf := ix_i hf
  obtain ⟨i2, hf⟩ := hf
  refine J_daload Z.1 dX13_summed_46 t1 i2 ?_
  refine J_td (fun x3 ex3 => ?_)
  replace hf := lt_i hf x3 ex3
  refine J_dstore Z.1 (lv2 := [(4, .double x3), (0, va_rf (some this)), (1, .int p1), (2, .int p2), (3, .int l3)]) dX13_summed_47 (zL Z (by decide)) rfl ?_
  refine J_iconst Z.1 (v := 1) (by decide) dX13_summed_49 ?_
  refine J_istore Z.1 (lv2 := [(6, .int 1), (4, .double x3), (0, va_rf (some this)), (1, .int p1), (2, .int p2), (3, .int l3)]) dX13_summed_50 (zL Z (by decide)) rfl ?_
  refine J_lv [2, 3, 4, 5, 1, 0] rfl ?_
  exact pX13_summed_l52_ok Z hK t0  FUEL _ _ _ _ hf
def pX13_summed (g : MT) (h : CT) (this : Nat) (p1 : Int32) (p2 : Int32) : Option ((UInt64) × CT) := tg g this 12 (lt (hR h this 19) fun r1 => (nn r1 fun a1 => (tg g a1 20 (ix (gL g a1) 0 (lt (hI h a1 (Int32.toNatClampNeg 0)) fun x4 => (if x4 = 0 then some (0, h) else if p2 = 2 then bd2 (pX13_folded g h this p1 x4 1) fun x11 h9 => (some (x11, h9)) else lt (hR h this 20) fun r7 => (if p2 = 0 then pX13_summed_b45 g this p1 p2  x4 r7 (16 * p1) 0 h else pX13_summed_b45 g this p1 p2  x4 r7 (16 * p1) (x4 - 1) h)))))))
set_option maxRecDepth 10000 in
set_option maxHeartbeats 4000000 in
theorem pX13_summed_ok (G : Gx) (dk : Nat) (hK : 2 ≤ dk) {g : MT} {h h0 : CT} {this : Nat} {p1 : Int32} {p2 : Int32} {r0 : UInt64} (hf : pX13_summed g h this p1 p2 = some (r0, h0)) : Ctr G dk yX13_summed cX13_summed 7 (some .double) [va_rf (some this), .int p1, .int p2] g h (some (.double r0)) g h0 := by
  refine Ctr.ofZ (lv := [(0, va_rf (some this)), (1, .int p1), (2, .int p2)]) (by decide +kernel) (by simp [cat_i, cat_l, cat_d, cat_rf]) rfl fun X Z => ?_
  unfold pX13_summed at hf
  replace hf := tg_i hf
  obtain ⟨t0, hf⟩ := hf
  refine J_aload_n Z.1 0 dX13_summed_0 rfl rfl ?_
  refine J_get (v := va_rf (hR h this 19)) Z.1 dX13_summed_1 fl_X13_31 t0 rfl ?_
  refine J_tr (fun r1 er1 => ?_)
  replace hf := lt_i hf r1 er1
  refine J_iconst Z.1 (v := 0) (by decide) dX13_summed_4 ?_
  replace hf := nn_i hf
  obtain ⟨a1, rfl, hf⟩ := hf
  replace hf := tg_i hf
  obtain ⟨t2, hf⟩ := hf
  replace hf := ix_i hf
  obtain ⟨i3, hf⟩ := hf
  refine J_iaload Z.1 dX13_summed_5 t2 i3 ?_
  refine J_ti (fun x4 ex4 => ?_)
  replace hf := lt_i hf x4 ex4
  refine J_istore_n Z.1 (lv2 := [(3, .int x4), (0, va_rf (some this)), (1, .int p1), (2, .int p2)]) dX13_summed_6 rfl (zL Z (by decide)) rfl ?_
  refine J_iload_n Z.1 0 dX13_summed_7 rfl rfl ?_
  refine J_if_ne Z.1 13 dX13_summed_8 (by decide) (fun c5 => ?_) (fun c5 => ?_)
  · rw [if_neg c5] at hf
    refine J_iload_n Z.1 3 dX13_summed_13 rfl rfl ?_
    refine J_iconst Z.1 (v := 2) (by decide) dX13_summed_14 ?_
    refine J_icmp_ne Z.1 26 dX13_summed_15 (by decide) (fun c6 => ?_) (fun c6 => ?_)
    · rw [if_neg c6] at hf
      refine J_aload_n Z.1 1 dX13_summed_26 rfl rfl ?_
      refine J_get (v := va_rf (hR h this 20)) Z.1 dX13_summed_27 fl_X13_34 t0 rfl ?_
      refine J_tr (fun r7 er7 => ?_)
      replace hf := lt_i hf r7 er7
      refine J_bipush Z.1 (v := 16) (by decide) dX13_summed_30 ?_
      refine J_iload_n Z.1 2 dX13_summed_32 rfl rfl ?_
      refine J_imul Z.1 dX13_summed_33 ?_
      refine J_iload_n Z.1 3 dX13_summed_34 rfl rfl ?_
      refine J_if_ne Z.1 42 dX13_summed_35 (by decide) (fun c8 => ?_) (fun c8 => ?_)
      · rw [if_neg c8] at hf
        refine J_iload_n Z.1 0 dX13_summed_42 rfl rfl ?_
        refine J_iconst Z.1 (v := 1) (by decide) dX13_summed_43 ?_
        refine J_isub Z.1 dX13_summed_44 ?_
        refine J_lv [1, 2, 3, 0] rfl ?_
        exact pX13_summed_b45_ok Z hK t0  _ _ _ _ _ hf
      · rw [if_pos c8] at hf
        refine J_iconst Z.1 (v := 0) (by decide) dX13_summed_38 ?_
        refine J_goto Z.1 45 dX13_summed_39 (by decide) ?_
        refine J_lv [1, 2, 3, 0] rfl ?_
        exact pX13_summed_b45_ok Z hK t0  _ _ _ _ _ hf
    · rw [if_pos c6] at hf
      refine J_aload_n Z.1 1 dX13_summed_18 rfl rfl ?_
      refine J_iload_n Z.1 2 dX13_summed_19 rfl rfl ?_
      refine J_iload_n Z.1 0 dX13_summed_20 rfl rfl ?_
      refine J_iconst Z.1 (v := 1) (by decide) dX13_summed_21 ?_
      replace hf := bd2_i hf
      obtain ⟨x11, h9, q10, hf⟩ := hf
      refine J_callV (ci := 11) (as := [.int p1, .int x4, .int 1]) (rest := []) (sy := [.double x11]) Z.1 dX13_summed_22 cw_X13_490 (pX13_folded_ok G (dk - 1) (by omega) q10) rfl rfl t0 (zG Z) rfl (by decide) (zF Z (by omega)) (zO Z (by omega) (by decide)) (zM _) Z.2.1 Z.2.1 rfl rfl ?_
      cases hf
      exact J_dret Z.1 Z.2.2.2.2.2 dX13_summed_25
  · rw [if_pos c5] at hf
    refine J_dconst0 Z.1 dX13_summed_11 ?_
    cases hf
    exact J_dret Z.1 Z.2.2.2.2.2 dX13_summed_12
theorem dX13_sum_0 : decode cX13_sum 0 = .ok (.aload_n 0, 1) := by decide +kernel
theorem dX13_sum_1 : decode cX13_sum 1 = .ok (.iconst 0, 1) := by decide +kernel
theorem dX13_sum_2 : decode cX13_sum 2 = .ok (.putfield 71, 3) := by decide +kernel
theorem dX13_sum_5 : decode cX13_sum 5 = .ok (.aload_n 0, 1) := by decide +kernel
theorem dX13_sum_6 : decode cX13_sum 6 = .ok (.iconst 0, 1) := by decide +kernel
theorem dX13_sum_7 : decode cX13_sum 7 = .ok (.putfield 74, 3) := by decide +kernel
theorem dX13_sum_10 : decode cX13_sum 10 = .ok (.iload_n 1, 1) := by decide +kernel
theorem dX13_sum_11 : decode cX13_sum 11 = .ok (.invokestatic 281, 3) := by decide +kernel
theorem dX13_sum_14 : decode cX13_sum 14 = .ok (.ifCond .ne 9, 3) := by decide +kernel
theorem dX13_sum_17 : decode cX13_sum 17 = .ok (.aload_n 0, 1) := by decide +kernel
theorem dX13_sum_18 : decode cX13_sum 18 = .ok (.iconst 2, 1) := by decide +kernel
theorem dX13_sum_19 : decode cX13_sum 19 = .ok (.invokevirtual 268, 3) := by decide +kernel
theorem dX13_sum_22 : decode cX13_sum 22 = .ok (.ireturn, 1) := by decide +kernel
theorem dX13_sum_23 : decode cX13_sum 23 = .ok (.aload_n 0, 1) := by decide +kernel
theorem dX13_sum_24 : decode cX13_sum 24 = .ok (.iload_n 1, 1) := by decide +kernel
theorem dX13_sum_25 : decode cX13_sum 25 = .ok (.invokevirtual 386, 3) := by decide +kernel
theorem dX13_sum_28 : decode cX13_sum 28 = .ok (.ifCond .eq 9, 3) := by decide +kernel
theorem dX13_sum_31 : decode cX13_sum 31 = .ok (.aload_n 0, 1) := by decide +kernel
theorem dX13_sum_32 : decode cX13_sum 32 = .ok (.iconst 3, 1) := by decide +kernel
theorem dX13_sum_33 : decode cX13_sum 33 = .ok (.invokevirtual 268, 3) := by decide +kernel
theorem dX13_sum_36 : decode cX13_sum 36 = .ok (.ireturn, 1) := by decide +kernel
theorem dX13_sum_37 : decode cX13_sum 37 = .ok (.iload_n 2, 1) := by decide +kernel
theorem dX13_sum_38 : decode cX13_sum 38 = .ok (.i2l, 1) := by decide +kernel
theorem dX13_sum_39 : decode cX13_sum 39 = .ok (.lconst 0, 1) := by decide +kernel
theorem dX13_sum_40 : decode cX13_sum 40 = .ok (.ldc2_w 118, 3) := by decide +kernel
theorem dX13_sum_43 : decode cX13_sum 43 = .ok (.invokestatic 104, 3) := by decide +kernel
theorem dX13_sum_46 : decode cX13_sum 46 = .ok (.ifCond .eq 16, 3) := by decide +kernel
theorem dX13_sum_49 : decode cX13_sum 49 = .ok (.aload_n 0, 1) := by decide +kernel
theorem dX13_sum_50 : decode cX13_sum 50 = .ok (.aload_n 0, 1) := by decide +kernel
theorem dX13_sum_51 : decode cX13_sum 51 = .ok (.iload_n 1, 1) := by decide +kernel
theorem dX13_sum_52 : decode cX13_sum 52 = .ok (.iload_n 2, 1) := by decide +kernel
theorem dX13_sum_53 : decode cX13_sum 53 = .ok (.invokevirtual 547, 3) := by decide +kernel
theorem dX13_sum_56 : decode cX13_sum 56 = .ok (.invokevirtual 291, 3) := by decide +kernel
theorem dX13_sum_59 : decode cX13_sum 59 = .ok (.goto 8, 3) := by decide +kernel
theorem dX13_sum_62 : decode cX13_sum 62 = .ok (.aload_n 0, 1) := by decide +kernel
theorem dX13_sum_63 : decode cX13_sum 63 = .ok (.iconst 5, 1) := by decide +kernel
theorem dX13_sum_64 : decode cX13_sum 64 = .ok (.invokevirtual 268, 3) := by decide +kernel
theorem dX13_sum_67 : decode cX13_sum 67 = .ok (.ireturn, 1) := by decide +kernel
def pX13_sum (g : MT) (h : CT) (this : Nat) (p1 : Int32) (p2 : Int32) : Option ((Int32) × CT) := tg g this 12 (lt (sI h this 1 0) fun h1 => (lt (sI h1 this 0 0) fun h2 => (if (pX13_isRow p1) = 0 then bd2 (pX13_refuse g h2 this 2) fun x22 h20 => (some (x22, h20)) else bd (pX13_misses g h2 this p1) fun x4 => (if x4 = 0 then if (pX13_isIn (Int32.toInt64 p2) 0 2) = 0 then bd2 (pX13_refuse g h2 this 5) fun x10 h8 => (some (x10, h8)) else bd2 (pX13_summed g h2 this p1 p2) fun x13 h11 => (bd2 (pX13_tells g h11 this x13) fun x16 h14 => (some (x16, h14))) else bd2 (pX13_refuse g h2 this 3) fun x19 h17 => (some (x19, h17))))))
set_option maxRecDepth 10000 in
set_option maxHeartbeats 4000000 in
theorem pX13_sum_ok (G : Gx) (dk : Nat) (hK : 3 ≤ dk) {g : MT} {h h0 : CT} {this : Nat} {p1 : Int32} {p2 : Int32} {r0 : Int32} (hf : pX13_sum g h this p1 p2 = some (r0, h0)) : Ctr G dk yX13_sum cX13_sum 3 (some .int) [va_rf (some this), .int p1, .int p2] g h (some (.int r0)) g h0 := by
  refine Ctr.ofZ (lv := [(0, va_rf (some this)), (1, .int p1), (2, .int p2)]) (by decide +kernel) (by simp [cat_i, cat_l, cat_d, cat_rf]) rfl fun X Z => ?_
  unfold pX13_sum at hf
  replace hf := tg_i hf
  obtain ⟨t0, hf⟩ := hf
  refine J_aload_n Z.1 0 dX13_sum_0 rfl rfl ?_
  refine J_iconst Z.1 (v := 0) (by decide) dX13_sum_1 ?_
  refine J_putI Z.1 dX13_sum_2 fl_X13_71 (fun q => by cases q) t0 rfl rfl (congrArg Value.int (hI_s _ _ _ _)) ?_
  refine J_th (fun h1 eh1 => ?_)
  replace hf := lt_i hf h1 eh1
  refine J_aload_n Z.1 0 dX13_sum_5 rfl rfl ?_
  refine J_iconst Z.1 (v := 0) (by decide) dX13_sum_6 ?_
  refine J_putI Z.1 dX13_sum_7 fl_X13_74 (fun q => by cases q) t0 rfl rfl (congrArg Value.int (hI_s _ _ _ _)) ?_
  refine J_th (fun h2 eh2 => ?_)
  replace hf := lt_i hf h2 eh2
  refine J_iload_n Z.1 1 dX13_sum_10 rfl rfl ?_
  refine J_callS (as := [.int p1]) (rest := []) (sy := [.int (pX13_isRow p1)]) Z.1 dX13_sum_11 cw_X13_281 (pX13_isRow_ok G (dk - 1) (by omega) g h2 p1) (zG Z) rfl (by decide) (zF Z (by omega)) (zO Z (by omega) (by decide)) (zM _) Z.2.1 Z.2.1 rfl rfl ?_
  refine J_if_ne Z.1 23 dX13_sum_14 (by decide) (fun c3 => ?_) (fun c3 => ?_)
  · rw [if_neg c3] at hf
    refine J_aload_n Z.1 0 dX13_sum_23 rfl rfl ?_
    refine J_iload_n Z.1 1 dX13_sum_24 rfl rfl ?_
    replace hf := bd_i hf
    obtain ⟨x4, q5, hf⟩ := hf
    refine J_callV (ci := 11) (as := [.int p1]) (rest := []) (sy := [.int x4]) Z.1 dX13_sum_25 cw_X13_386 (pX13_misses_ok G (dk - 1) (by omega) q5) rfl rfl t0 (zG Z) rfl (by decide) (zF Z (by omega)) (zO Z (by omega) (by decide)) (zM _) Z.2.1 Z.2.1 rfl rfl ?_
    refine J_if_eq Z.1 37 dX13_sum_28 (by decide) (fun c6 => ?_) (fun c6 => ?_)
    · rw [if_pos c6] at hf
      refine J_iload_n Z.1 2 dX13_sum_37 rfl rfl ?_
      refine J_i2l Z.1 dX13_sum_38 ?_
      refine J_lconst Z.1 (v := 0) (by decide) dX13_sum_39 ?_
      refine J_ldc2 Z.1 q_1774 dX13_sum_40 ?_
      refine J_callS (as := [.long (Int32.toInt64 p2), .long 0, .long 2]) (rest := []) (sy := [.int (pX13_isIn (Int32.toInt64 p2) 0 2)]) Z.1 dX13_sum_43 cw_X13_104 (pX13_isIn_ok G (dk - 1) (by omega) g h2 (Int32.toInt64 p2) 0 2) (zG Z) rfl (by decide) (zF Z (by omega)) (zO Z (by omega) (by decide)) (zM _) Z.2.1 Z.2.1 rfl rfl ?_
      refine J_if_eq Z.1 62 dX13_sum_46 (by decide) (fun c7 => ?_) (fun c7 => ?_)
      · rw [if_pos c7] at hf
        refine J_aload_n Z.1 0 dX13_sum_62 rfl rfl ?_
        refine J_iconst Z.1 (v := 5) (by decide) dX13_sum_63 ?_
        replace hf := bd2_i hf
        obtain ⟨x10, h8, q9, hf⟩ := hf
        refine J_callV (ci := 11) (as := [.int 5]) (rest := []) (sy := [.int x10]) Z.1 dX13_sum_64 cw_X13_268 (pX13_refuse_ok G (dk - 1) (by omega) q9) rfl rfl t0 (zG Z) rfl (by decide) (zF Z (by omega)) (zO Z (by omega) (by decide)) (zM _) Z.2.1 Z.2.1 rfl rfl ?_
        cases hf
        exact J_iret Z.1 Z.2.2.2.2.2 dX13_sum_67
      · rw [if_neg c7] at hf
        refine J_aload_n Z.1 0 dX13_sum_49 rfl rfl ?_
        refine J_aload_n Z.1 0 dX13_sum_50 rfl rfl ?_
        refine J_iload_n Z.1 1 dX13_sum_51 rfl rfl ?_
        refine J_iload_n Z.1 2 dX13_sum_52 rfl rfl ?_
        replace hf := bd2_i hf
        obtain ⟨x13, h11, q12, hf⟩ := hf
        refine J_callV (ci := 11) (as := [.int p1, .int p2]) (rest := [va_rf (some this)]) (sy := [.double x13, va_rf (some this)]) Z.1 dX13_sum_53 cw_X13_547 (pX13_summed_ok G (dk - 1) (by omega) q12) rfl rfl t0 (zG Z) rfl (by simp [cat_i, cat_l, cat_d, cat_rf]) (zF Z (by omega)) (zO Z (by omega) (by decide)) (zM _) Z.2.1 Z.2.1 rfl rfl ?_
        replace hf := bd2_i hf
        obtain ⟨x16, h14, q15, hf⟩ := hf
        refine J_callV (ci := 11) (as := [.double x13]) (rest := []) (sy := [.int x16]) Z.1 dX13_sum_56 cw_X13_291 (pX13_tells_ok G (dk - 1) (by omega) q15) rfl rfl t0 (zG Z) rfl (by decide) (zF Z (by omega)) (zO Z (by omega) (by decide)) (zM _) Z.2.1 Z.2.1 rfl rfl ?_
        refine J_goto Z.1 67 dX13_sum_59 (by decide) ?_
        cases hf
        exact J_iret Z.1 Z.2.2.2.2.2 dX13_sum_67
    · rw [if_neg c6] at hf
      refine J_aload_n Z.1 0 dX13_sum_31 rfl rfl ?_
      refine J_iconst Z.1 (v := 3) (by decide) dX13_sum_32 ?_
      replace hf := bd2_i hf
      obtain ⟨x19, h17, q18, hf⟩ := hf
      refine J_callV (ci := 11) (as := [.int 3]) (rest := []) (sy := [.int x19]) Z.1 dX13_sum_33 cw_X13_268 (pX13_refuse_ok G (dk - 1) (by omega) q18) rfl rfl t0 (zG Z) rfl (by decide) (zF Z (by omega)) (zO Z (by omega) (by decide)) (zM _) Z.2.1 Z.2.1 rfl rfl ?_
      cases hf
      exact J_iret Z.1 Z.2.2.2.2.2 dX13_sum_36
  · rw [if_pos c3] at hf
    refine J_aload_n Z.1 0 dX13_sum_17 rfl rfl ?_
    refine J_iconst Z.1 (v := 2) (by decide) dX13_sum_18 ?_
    replace hf := bd2_i hf
    obtain ⟨x22, h20, q21, hf⟩ := hf
    refine J_callV (ci := 11) (as := [.int 2]) (rest := []) (sy := [.int x22]) Z.1 dX13_sum_19 cw_X13_268 (pX13_refuse_ok G (dk - 1) (by omega) q21) rfl rfl t0 (zG Z) rfl (by decide) (zF Z (by omega)) (zO Z (by omega) (by decide)) (zM _) Z.2.1 Z.2.1 rfl rfl ?_
    cases hf
    exact J_iret Z.1 Z.2.2.2.2.2 dX13_sum_22
theorem dX13_sums_0 : decode cX13_sums 0 = .ok (.aload_n 0, 1) := by decide +kernel
theorem dX13_sums_1 : decode cX13_sums 1 = .ok (.iconst 0, 1) := by decide +kernel
theorem dX13_sums_2 : decode cX13_sums 2 = .ok (.putfield 71, 3) := by decide +kernel
theorem dX13_sums_5 : decode cX13_sums 5 = .ok (.aload_n 0, 1) := by decide +kernel
theorem dX13_sums_6 : decode cX13_sums 6 = .ok (.iconst 0, 1) := by decide +kernel
theorem dX13_sums_7 : decode cX13_sums 7 = .ok (.putfield 74, 3) := by decide +kernel
theorem dX13_sums_10 : decode cX13_sums 10 = .ok (.iload_n 1, 1) := by decide +kernel
theorem dX13_sums_11 : decode cX13_sums 11 = .ok (.invokestatic 281, 3) := by decide +kernel
theorem dX13_sums_14 : decode cX13_sums 14 = .ok (.ifCond .ne 9, 3) := by decide +kernel
theorem dX13_sums_17 : decode cX13_sums 17 = .ok (.aload_n 0, 1) := by decide +kernel
theorem dX13_sums_18 : decode cX13_sums 18 = .ok (.iconst 2, 1) := by decide +kernel
theorem dX13_sums_19 : decode cX13_sums 19 = .ok (.invokevirtual 268, 3) := by decide +kernel
theorem dX13_sums_22 : decode cX13_sums 22 = .ok (.ireturn, 1) := by decide +kernel
theorem dX13_sums_23 : decode cX13_sums 23 = .ok (.aload_n 0, 1) := by decide +kernel
theorem dX13_sums_24 : decode cX13_sums 24 = .ok (.iload_n 1, 1) := by decide +kernel
theorem dX13_sums_25 : decode cX13_sums 25 = .ok (.invokevirtual 386, 3) := by decide +kernel
theorem dX13_sums_28 : decode cX13_sums 28 = .ok (.ifCond .eq 9, 3) := by decide +kernel
theorem dX13_sums_31 : decode cX13_sums 31 = .ok (.aload_n 0, 1) := by decide +kernel
theorem dX13_sums_32 : decode cX13_sums 32 = .ok (.iconst 3, 1) := by decide +kernel
theorem dX13_sums_33 : decode cX13_sums 33 = .ok (.invokevirtual 268, 3) := by decide +kernel
theorem dX13_sums_36 : decode cX13_sums 36 = .ok (.ireturn, 1) := by decide +kernel
theorem dX13_sums_37 : decode cX13_sums 37 = .ok (.aload_n 0, 1) := by decide +kernel
theorem dX13_sums_38 : decode cX13_sums 38 = .ok (.iload_n 1, 1) := by decide +kernel
theorem dX13_sums_39 : decode cX13_sums 39 = .ok (.iconst 0, 1) := by decide +kernel
theorem dX13_sums_40 : decode cX13_sums 40 = .ok (.invokevirtual 547, 3) := by decide +kernel
theorem dX13_sums_43 : decode cX13_sums 43 = .ok (.dstore_n 2, 1) := by decide +kernel
theorem dX13_sums_44 : decode cX13_sums 44 = .ok (.aload_n 0, 1) := by decide +kernel
theorem dX13_sums_45 : decode cX13_sums 45 = .ok (.iload_n 1, 1) := by decide +kernel
theorem dX13_sums_46 : decode cX13_sums 46 = .ok (.iconst 1, 1) := by decide +kernel
theorem dX13_sums_47 : decode cX13_sums 47 = .ok (.invokevirtual 547, 3) := by decide +kernel
theorem dX13_sums_50 : decode cX13_sums 50 = .ok (.dstore 4, 2) := by decide +kernel
theorem dX13_sums_52 : decode cX13_sums 52 = .ok (.aload_n 0, 1) := by decide +kernel
theorem dX13_sums_53 : decode cX13_sums 53 = .ok (.iload_n 1, 1) := by decide +kernel
theorem dX13_sums_54 : decode cX13_sums 54 = .ok (.iconst 2, 1) := by decide +kernel
theorem dX13_sums_55 : decode cX13_sums 55 = .ok (.invokevirtual 547, 3) := by decide +kernel
theorem dX13_sums_58 : decode cX13_sums 58 = .ok (.dstore 6, 2) := by decide +kernel
theorem dX13_sums_60 : decode cX13_sums 60 = .ok (.dload_n 2, 1) := by decide +kernel
theorem dX13_sums_61 : decode cX13_sums 61 = .ok (.dload 4, 2) := by decide +kernel
theorem dX13_sums_63 : decode cX13_sums 63 = .ok (.invokestatic 550, 3) := by decide +kernel
theorem dX13_sums_66 : decode cX13_sums 66 = .ok (.ifCond .eq 7, 3) := by decide +kernel
theorem dX13_sums_69 : decode cX13_sums 69 = .ok (.iconst 1, 1) := by decide +kernel
theorem dX13_sums_70 : decode cX13_sums 70 = .ok (.goto 4, 3) := by decide +kernel
theorem dX13_sums_73 : decode cX13_sums 73 = .ok (.iconst 2, 1) := by decide +kernel
theorem dX13_sums_74 : decode cX13_sums 74 = .ok (.istore 8, 2) := by decide +kernel
theorem dX13_sums_76 : decode cX13_sums 76 = .ok (.dload 6, 2) := by decide +kernel
theorem dX13_sums_78 : decode cX13_sums 78 = .ok (.dload_n 2, 1) := by decide +kernel
theorem dX13_sums_79 : decode cX13_sums 79 = .ok (.invokestatic 550, 3) := by decide +kernel
theorem dX13_sums_82 : decode cX13_sums 82 = .ok (.ifCond .ne 13, 3) := by decide +kernel
theorem dX13_sums_85 : decode cX13_sums 85 = .ok (.dload 6, 2) := by decide +kernel
theorem dX13_sums_87 : decode cX13_sums 87 = .ok (.dload 4, 2) := by decide +kernel
theorem dX13_sums_89 : decode cX13_sums 89 = .ok (.invokestatic 550, 3) := by decide +kernel
theorem dX13_sums_92 : decode cX13_sums 92 = .ok (.ifCond .eq 8, 3) := by decide +kernel
theorem dX13_sums_95 : decode cX13_sums 95 = .ok (.iload 8, 2) := by decide +kernel
theorem dX13_sums_97 : decode cX13_sums 97 = .ok (.goto 7, 3) := by decide +kernel
theorem dX13_sums_100 : decode cX13_sums 100 = .ok (.iload 8, 2) := by decide +kernel
theorem dX13_sums_102 : decode cX13_sums 102 = .ok (.iconst 1, 1) := by decide +kernel
theorem dX13_sums_103 : decode cX13_sums 103 = .ok (.iadd, 1) := by decide +kernel
theorem dX13_sums_104 : decode cX13_sums 104 = .ok (.ireturn, 1) := by decide +kernel
def pX13_sums_b95 (g : MT) (this : Nat) (p1 : Int32) (l8 : Int32) (h : CT) : Option ((Int32) × CT) := some (l8, h)
set_option maxRecDepth 10000 in
set_option maxHeartbeats 4000000 in
theorem pX13_sums_b95_ok {X : Cx} {G : Gx} {dk : Nat} {g : MT} {r0 : Int32} {h0 : CT} {this : Nat} {p1 : Int32} (Z : Zx X G cX13_sums RX13 9 dk (some .int) (some (.int r0)) g h0) (hK : 3 ≤ dk) (t0 : gT g this = 12) (l8 : Int32) (h : CT) (hf : pX13_sums_b95 g this p1 l8 h = some (r0, h0)) : J X g h 95 [(8, .int l8)] [] := by
  unfold pX13_sums_b95 at hf
  refine J_iload Z.1 0 dX13_sums_95 rfl ?_
  refine J_goto Z.1 104 dX13_sums_97 (by decide) ?_
  cases hf
  exact J_iret Z.1 Z.2.2.2.2.2 dX13_sums_104
def pX13_sums_b74 (g : MT) (this : Nat) (p1 : Int32) (l2 : UInt64) (l4 : UInt64) (l6 : UInt64) (s0 : Int32) (h : CT) : Option ((Int32) × CT) := if (pX13_areAlike l6 l2) = 0 then if (pX13_areAlike l6 l4) = 0 then some ((s0 + 1), h) else pX13_sums_b95 g this p1  s0 h else pX13_sums_b95 g this p1  s0 h
set_option maxRecDepth 10000 in
set_option maxHeartbeats 4000000 in
theorem pX13_sums_b74_ok {X : Cx} {G : Gx} {dk : Nat} {g : MT} {r0 : Int32} {h0 : CT} {this : Nat} {p1 : Int32} (Z : Zx X G cX13_sums RX13 9 dk (some .int) (some (.int r0)) g h0) (hK : 3 ≤ dk) (t0 : gT g this = 12) (l2 : UInt64) (l4 : UInt64) (l6 : UInt64) (s0 : Int32) (h : CT) (hf : pX13_sums_b74 g this p1 l2 l4 l6 s0 h = some (r0, h0)) : J X g h 74 [(2, .double l2), (4, .double l4), (6, .double l6)] [.int s0] := by
  unfold pX13_sums_b74 at hf
  refine J_istore Z.1 (lv2 := [(8, .int s0), (2, .double l2), (4, .double l4), (6, .double l6)]) dX13_sums_74 (zL Z (by decide)) rfl ?_
  refine J_dload Z.1 3 dX13_sums_76 rfl ?_
  refine J_dload_n Z.1 1 dX13_sums_78 rfl rfl ?_
  refine J_callS (as := [.double l6, .double l2]) (rest := []) (sy := [.int (pX13_areAlike l6 l2)]) Z.1 dX13_sums_79 cw_X13_550 (pX13_areAlike_ok G (dk - 1) (by omega) g h l6 l2) (zG Z) rfl (by decide) (zF Z (by omega)) (zO Z (by omega) (by decide)) (zM _) Z.2.1 Z.2.1 rfl rfl ?_
  refine J_if_ne Z.1 95 dX13_sums_82 (by decide) (fun c1 => ?_) (fun c1 => ?_)
  · rw [if_neg c1] at hf
    refine J_lv [0] rfl ?_
    exact pX13_sums_b95_ok Z hK t0  _ _ hf
  · rw [if_pos c1] at hf
    refine J_dload Z.1 3 dX13_sums_85 rfl ?_
    refine J_dload Z.1 2 dX13_sums_87 rfl ?_
    refine J_callS (as := [.double l6, .double l4]) (rest := []) (sy := [.int (pX13_areAlike l6 l4)]) Z.1 dX13_sums_89 cw_X13_550 (pX13_areAlike_ok G (dk - 1) (by omega) g h l6 l4) (zG Z) rfl (by decide) (zF Z (by omega)) (zO Z (by omega) (by decide)) (zM _) Z.2.1 Z.2.1 rfl rfl ?_
    refine J_if_eq Z.1 100 dX13_sums_92 (by decide) (fun c2 => ?_) (fun c2 => ?_)
    · rw [if_pos c2] at hf
      refine J_iload Z.1 0 dX13_sums_100 rfl ?_
      refine J_iconst Z.1 (v := 1) (by decide) dX13_sums_102 ?_
      refine J_iadd Z.1 dX13_sums_103 ?_
      cases hf
      exact J_iret Z.1 Z.2.2.2.2.2 dX13_sums_104
    · rw [if_neg c2] at hf
      refine J_lv [0] rfl ?_
      exact pX13_sums_b95_ok Z hK t0  _ _ hf
def pX13_sums (g : MT) (h : CT) (this : Nat) (p1 : Int32) : Option ((Int32) × CT) := tg g this 12 (lt (sI h this 1 0) fun h1 => (lt (sI h1 this 0 0) fun h2 => (if (pX13_isRow p1) = 0 then bd2 (pX13_refuse g h2 this 2) fun x22 h20 => (some (x22, h20)) else bd (pX13_misses g h2 this p1) fun x4 => (if x4 = 0 then bd2 (pX13_summed g h2 this p1 0) fun x9 h7 => (bd2 (pX13_summed g h7 this p1 1) fun x12 h10 => (bd2 (pX13_summed g h10 this p1 2) fun x15 h13 => (if (pX13_areAlike x9 x12) = 0 then pX13_sums_b74 g this p1  x9 x12 x15 2 h13 else pX13_sums_b74 g this p1  x9 x12 x15 1 h13))) else bd2 (pX13_refuse g h2 this 3) fun x19 h17 => (some (x19, h17))))))
set_option maxRecDepth 10000 in
set_option maxHeartbeats 4000000 in
theorem pX13_sums_ok (G : Gx) (dk : Nat) (hK : 3 ≤ dk) {g : MT} {h h0 : CT} {this : Nat} {p1 : Int32} {r0 : Int32} (hf : pX13_sums g h this p1 = some (r0, h0)) : Ctr G dk yX13_sums cX13_sums 9 (some .int) [va_rf (some this), .int p1] g h (some (.int r0)) g h0 := by
  refine Ctr.ofZ (lv := [(0, va_rf (some this)), (1, .int p1)]) (by decide +kernel) (by simp [cat_i, cat_l, cat_d, cat_rf]) rfl fun X Z => ?_
  unfold pX13_sums at hf
  replace hf := tg_i hf
  obtain ⟨t0, hf⟩ := hf
  refine J_aload_n Z.1 0 dX13_sums_0 rfl rfl ?_
  refine J_iconst Z.1 (v := 0) (by decide) dX13_sums_1 ?_
  refine J_putI Z.1 dX13_sums_2 fl_X13_71 (fun q => by cases q) t0 rfl rfl (congrArg Value.int (hI_s _ _ _ _)) ?_
  refine J_th (fun h1 eh1 => ?_)
  replace hf := lt_i hf h1 eh1
  refine J_aload_n Z.1 0 dX13_sums_5 rfl rfl ?_
  refine J_iconst Z.1 (v := 0) (by decide) dX13_sums_6 ?_
  refine J_putI Z.1 dX13_sums_7 fl_X13_74 (fun q => by cases q) t0 rfl rfl (congrArg Value.int (hI_s _ _ _ _)) ?_
  refine J_th (fun h2 eh2 => ?_)
  replace hf := lt_i hf h2 eh2
  refine J_iload_n Z.1 1 dX13_sums_10 rfl rfl ?_
  refine J_callS (as := [.int p1]) (rest := []) (sy := [.int (pX13_isRow p1)]) Z.1 dX13_sums_11 cw_X13_281 (pX13_isRow_ok G (dk - 1) (by omega) g h2 p1) (zG Z) rfl (by decide) (zF Z (by omega)) (zO Z (by omega) (by decide)) (zM _) Z.2.1 Z.2.1 rfl rfl ?_
  refine J_if_ne Z.1 23 dX13_sums_14 (by decide) (fun c3 => ?_) (fun c3 => ?_)
  · rw [if_neg c3] at hf
    refine J_aload_n Z.1 0 dX13_sums_23 rfl rfl ?_
    refine J_iload_n Z.1 1 dX13_sums_24 rfl rfl ?_
    replace hf := bd_i hf
    obtain ⟨x4, q5, hf⟩ := hf
    refine J_callV (ci := 11) (as := [.int p1]) (rest := []) (sy := [.int x4]) Z.1 dX13_sums_25 cw_X13_386 (pX13_misses_ok G (dk - 1) (by omega) q5) rfl rfl t0 (zG Z) rfl (by decide) (zF Z (by omega)) (zO Z (by omega) (by decide)) (zM _) Z.2.1 Z.2.1 rfl rfl ?_
    refine J_if_eq Z.1 37 dX13_sums_28 (by decide) (fun c6 => ?_) (fun c6 => ?_)
    · rw [if_pos c6] at hf
      refine J_aload_n Z.1 0 dX13_sums_37 rfl rfl ?_
      refine J_iload_n Z.1 1 dX13_sums_38 rfl rfl ?_
      refine J_iconst Z.1 (v := 0) (by decide) dX13_sums_39 ?_
      replace hf := bd2_i hf
      obtain ⟨x9, h7, q8, hf⟩ := hf
      refine J_callV (ci := 11) (as := [.int p1, .int 0]) (rest := []) (sy := [.double x9]) Z.1 dX13_sums_40 cw_X13_547 (pX13_summed_ok G (dk - 1) (by omega) q8) rfl rfl t0 (zG Z) rfl (by decide) (zF Z (by omega)) (zO Z (by omega) (by decide)) (zM _) Z.2.1 Z.2.1 rfl rfl ?_
      refine J_dstore_n Z.1 (lv2 := [(2, .double x9), (0, va_rf (some this)), (1, .int p1)]) dX13_sums_43 rfl (zL Z (by decide)) rfl ?_
      refine J_aload_n Z.1 1 dX13_sums_44 rfl rfl ?_
      refine J_iload_n Z.1 2 dX13_sums_45 rfl rfl ?_
      refine J_iconst Z.1 (v := 1) (by decide) dX13_sums_46 ?_
      replace hf := bd2_i hf
      obtain ⟨x12, h10, q11, hf⟩ := hf
      refine J_callV (ci := 11) (as := [.int p1, .int 1]) (rest := []) (sy := [.double x12]) Z.1 dX13_sums_47 cw_X13_547 (pX13_summed_ok G (dk - 1) (by omega) q11) rfl rfl t0 (zG Z) rfl (by decide) (zF Z (by omega)) (zO Z (by omega) (by decide)) (zM _) Z.2.1 Z.2.1 rfl rfl ?_
      refine J_dstore Z.1 (lv2 := [(4, .double x12), (2, .double x9), (0, va_rf (some this)), (1, .int p1)]) dX13_sums_50 (zL Z (by decide)) rfl ?_
      refine J_aload_n Z.1 2 dX13_sums_52 rfl rfl ?_
      refine J_iload_n Z.1 3 dX13_sums_53 rfl rfl ?_
      refine J_iconst Z.1 (v := 2) (by decide) dX13_sums_54 ?_
      replace hf := bd2_i hf
      obtain ⟨x15, h13, q14, hf⟩ := hf
      refine J_callV (ci := 11) (as := [.int p1, .int 2]) (rest := []) (sy := [.double x15]) Z.1 dX13_sums_55 cw_X13_547 (pX13_summed_ok G (dk - 1) (by omega) q14) rfl rfl t0 (zG Z) rfl (by decide) (zF Z (by omega)) (zO Z (by omega) (by decide)) (zM _) Z.2.1 Z.2.1 rfl rfl ?_
      refine J_dstore Z.1 (lv2 := [(6, .double x15), (4, .double x12), (2, .double x9), (0, va_rf (some this)), (1, .int p1)]) dX13_sums_58 (zL Z (by decide)) rfl ?_
      refine J_dload_n Z.1 2 dX13_sums_60 rfl rfl ?_
      refine J_dload Z.1 1 dX13_sums_61 rfl ?_
      refine J_callS (as := [.double x9, .double x12]) (rest := []) (sy := [.int (pX13_areAlike x9 x12)]) Z.1 dX13_sums_63 cw_X13_550 (pX13_areAlike_ok G (dk - 1) (by omega) g h13 x9 x12) (zG Z) rfl (by decide) (zF Z (by omega)) (zO Z (by omega) (by decide)) (zM _) Z.2.1 Z.2.1 rfl rfl ?_
      refine J_if_eq Z.1 73 dX13_sums_66 (by decide) (fun c16 => ?_) (fun c16 => ?_)
      · rw [if_pos c16] at hf
        refine J_iconst Z.1 (v := 2) (by decide) dX13_sums_73 ?_
        refine J_lv [2, 1, 0] rfl ?_
        exact pX13_sums_b74_ok Z hK t0  _ _ _ _ _ hf
      · rw [if_neg c16] at hf
        refine J_iconst Z.1 (v := 1) (by decide) dX13_sums_69 ?_
        refine J_goto Z.1 74 dX13_sums_70 (by decide) ?_
        refine J_lv [2, 1, 0] rfl ?_
        exact pX13_sums_b74_ok Z hK t0  _ _ _ _ _ hf
    · rw [if_neg c6] at hf
      refine J_aload_n Z.1 0 dX13_sums_31 rfl rfl ?_
      refine J_iconst Z.1 (v := 3) (by decide) dX13_sums_32 ?_
      replace hf := bd2_i hf
      obtain ⟨x19, h17, q18, hf⟩ := hf
      refine J_callV (ci := 11) (as := [.int 3]) (rest := []) (sy := [.int x19]) Z.1 dX13_sums_33 cw_X13_268 (pX13_refuse_ok G (dk - 1) (by omega) q18) rfl rfl t0 (zG Z) rfl (by decide) (zF Z (by omega)) (zO Z (by omega) (by decide)) (zM _) Z.2.1 Z.2.1 rfl rfl ?_
      cases hf
      exact J_iret Z.1 Z.2.2.2.2.2 dX13_sums_36
  · rw [if_pos c3] at hf
    refine J_aload_n Z.1 0 dX13_sums_17 rfl rfl ?_
    refine J_iconst Z.1 (v := 2) (by decide) dX13_sums_18 ?_
    replace hf := bd2_i hf
    obtain ⟨x22, h20, q21, hf⟩ := hf
    refine J_callV (ci := 11) (as := [.int 2]) (rest := []) (sy := [.int x22]) Z.1 dX13_sums_19 cw_X13_268 (pX13_refuse_ok G (dk - 1) (by omega) q21) rfl rfl t0 (zG Z) rfl (by decide) (zF Z (by omega)) (zO Z (by omega) (by decide)) (zM _) Z.2.1 Z.2.1 rfl rfl ?_
    cases hf
    exact J_iret Z.1 Z.2.2.2.2.2 dX13_sums_22
theorem dX13_laysRound_0 : decode cX13_laysRound 0 = .ok (.iload_n 1, 1) := by decide +kernel
theorem dX13_laysRound_1 : decode cX13_laysRound 1 = .ok (.istore_n 3, 1) := by decide +kernel
theorem dX13_laysRound_2 : decode cX13_laysRound 2 = .ok (.aload_n 0, 1) := by decide +kernel
theorem dX13_laysRound_3 : decode cX13_laysRound 3 = .ok (.iconst 0, 1) := by decide +kernel
theorem dX13_laysRound_4 : decode cX13_laysRound 4 = .ok (.putfield 554, 3) := by decide +kernel
theorem dX13_laysRound_7 : decode cX13_laysRound 7 = .ok (.iload_n 2, 1) := by decide +kernel
theorem dX13_laysRound_8 : decode cX13_laysRound 8 = .ok (.iload_n 3, 1) := by decide +kernel
theorem dX13_laysRound_9 : decode cX13_laysRound 9 = .ok (.iconst 1, 1) := by decide +kernel
theorem dX13_laysRound_10 : decode cX13_laysRound 10 = .ok (.iadd, 1) := by decide +kernel
theorem dX13_laysRound_11 : decode cX13_laysRound 11 = .ok (.iconst 2, 1) := by decide +kernel
theorem dX13_laysRound_12 : decode cX13_laysRound 12 = .ok (.idiv, 1) := by decide +kernel
theorem dX13_laysRound_13 : decode cX13_laysRound 13 = .ok (.if_icmp .ge 22, 3) := by decide +kernel
theorem dX13_laysRound_16 : decode cX13_laysRound 16 = .ok (.iload_n 3, 1) := by decide +kernel
theorem dX13_laysRound_17 : decode cX13_laysRound 17 = .ok (.iconst 1, 1) := by decide +kernel
theorem dX13_laysRound_18 : decode cX13_laysRound 18 = .ok (.iadd, 1) := by decide +kernel
theorem dX13_laysRound_19 : decode cX13_laysRound 19 = .ok (.iconst 2, 1) := by decide +kernel
theorem dX13_laysRound_20 : decode cX13_laysRound 20 = .ok (.idiv, 1) := by decide +kernel
theorem dX13_laysRound_21 : decode cX13_laysRound 21 = .ok (.istore_n 3, 1) := by decide +kernel
theorem dX13_laysRound_22 : decode cX13_laysRound 22 = .ok (.aload_n 0, 1) := by decide +kernel
theorem dX13_laysRound_23 : decode cX13_laysRound 23 = .ok (.dup, 1) := by decide +kernel
theorem dX13_laysRound_24 : decode cX13_laysRound 24 = .ok (.getfield 554, 3) := by decide +kernel
theorem dX13_laysRound_27 : decode cX13_laysRound 27 = .ok (.iconst 1, 1) := by decide +kernel
theorem dX13_laysRound_28 : decode cX13_laysRound 28 = .ok (.iadd, 1) := by decide +kernel
theorem dX13_laysRound_29 : decode cX13_laysRound 29 = .ok (.putfield 554, 3) := by decide +kernel
theorem dX13_laysRound_32 : decode cX13_laysRound 32 = .ok (.goto (-25), 3) := by decide +kernel
theorem dX13_laysRound_35 : decode cX13_laysRound 35 = .ok (.aload_n 0, 1) := by decide +kernel
theorem dX13_laysRound_36 : decode cX13_laysRound 36 = .ok (.iload_n 2, 1) := by decide +kernel
theorem dX13_laysRound_37 : decode cX13_laysRound 37 = .ok (.iload_n 3, 1) := by decide +kernel
theorem dX13_laysRound_38 : decode cX13_laysRound 38 = .ok (.iconst 1, 1) := by decide +kernel
theorem dX13_laysRound_39 : decode cX13_laysRound 39 = .ok (.iadd, 1) := by decide +kernel
theorem dX13_laysRound_40 : decode cX13_laysRound 40 = .ok (.iconst 2, 1) := by decide +kernel
theorem dX13_laysRound_41 : decode cX13_laysRound 41 = .ok (.idiv, 1) := by decide +kernel
theorem dX13_laysRound_42 : decode cX13_laysRound 42 = .ok (.isub, 1) := by decide +kernel
theorem dX13_laysRound_43 : decode cX13_laysRound 43 = .ok (.putfield 557, 3) := by decide +kernel
theorem dX13_laysRound_46 : decode cX13_laysRound 46 = .ok (.return_, 1) := by decide +kernel
def pX13_laysRound_b7 (g : MT) (this : Nat) (p1 : Int32) (p2 : Int32) (k7 : Int32 → CT → Option CT) (l3 : Int32) (h : CT) : Option CT := if ((l3 + 1) / 2) ≤ p2 then lt (sI h this 49 (p2 - ((l3 + 1) / 2))) fun h2 => (some h2) else lt ((l3 + 1) / 2) fun x3 => (lt (sI h this 48 ((hI h this 48) + 1)) fun h4 => (k7 x3 h4))
set_option maxRecDepth 10000 in
set_option maxHeartbeats 4000000 in
theorem pX13_laysRound_b7_ok {X : Cx} {G : Gx} {dk : Nat} {g : MT} {h0 : CT} {this : Nat} {p1 : Int32} {p2 : Int32} {k7 : Int32 → CT → Option CT} (Z : Zx X G cX13_laysRound RX13 4 dk none none g h0) (hK : 0 ≤ dk) (t0 : gT g this = 12) (hk7 : ∀ (l3 : Int32) (h : CT), k7 l3 h = some h0 → J X g h 7 [(0, va_rf (some this)), (2, .int p2), (3, .int l3)] []) (l3 : Int32) (h : CT) (hf : pX13_laysRound_b7 g this p1 p2 k7 l3 h = some h0) : J X g h 7 [(0, va_rf (some this)), (2, .int p2), (3, .int l3)] [] := by
  unfold pX13_laysRound_b7 at hf
  refine J_iload_n Z.1 1 dX13_laysRound_7 rfl rfl ?_
  refine J_iload_n Z.1 2 dX13_laysRound_8 rfl rfl ?_
  refine J_iconst Z.1 (v := 1) (by decide) dX13_laysRound_9 ?_
  refine J_iadd Z.1 dX13_laysRound_10 ?_
  refine J_iconst Z.1 (v := 2) (by decide) dX13_laysRound_11 ?_
  refine J_idiv Z.1 (by decide) dX13_laysRound_12 ?_
  refine J_icmp_ge Z.1 35 dX13_laysRound_13 (by decide) (fun c1 => ?_) (fun c1 => ?_)
  · rw [if_pos c1] at hf
    refine J_aload_n Z.1 0 dX13_laysRound_35 rfl rfl ?_
    refine J_iload_n Z.1 1 dX13_laysRound_36 rfl rfl ?_
    refine J_iload_n Z.1 2 dX13_laysRound_37 rfl rfl ?_
    refine J_iconst Z.1 (v := 1) (by decide) dX13_laysRound_38 ?_
    refine J_iadd Z.1 dX13_laysRound_39 ?_
    refine J_iconst Z.1 (v := 2) (by decide) dX13_laysRound_40 ?_
    refine J_idiv Z.1 (by decide) dX13_laysRound_41 ?_
    refine J_isub Z.1 dX13_laysRound_42 ?_
    refine J_putI Z.1 dX13_laysRound_43 fl_X13_557 (fun q => by cases q) t0 rfl rfl (congrArg Value.int (hI_s _ _ _ _)) ?_
    refine J_th (fun h2 eh2 => ?_)
    replace hf := lt_i hf h2 eh2
    cases hf
    exact J_vret Z.1 Z.2.2.2.2.2 dX13_laysRound_46
  · rw [if_neg c1] at hf
    refine J_iload_n Z.1 2 dX13_laysRound_16 rfl rfl ?_
    refine J_iconst Z.1 (v := 1) (by decide) dX13_laysRound_17 ?_
    refine J_iadd Z.1 dX13_laysRound_18 ?_
    refine J_iconst Z.1 (v := 2) (by decide) dX13_laysRound_19 ?_
    refine J_idiv Z.1 (by decide) dX13_laysRound_20 ?_
    refine J_ti (fun x3 ex3 => ?_)
    replace hf := lt_i hf x3 ex3
    refine J_istore_n Z.1 (lv2 := [(3, .int x3), (0, va_rf (some this)), (2, .int p2)]) dX13_laysRound_21 rfl (zL Z (by decide)) rfl ?_
    refine J_aload_n Z.1 1 dX13_laysRound_22 rfl rfl ?_
    refine J_dup Z.1 dX13_laysRound_23 rfl ?_
    refine J_get (v := .int (hI h this 48)) Z.1 dX13_laysRound_24 fl_X13_554 t0 rfl ?_
    refine J_iconst Z.1 (v := 1) (by decide) dX13_laysRound_27 ?_
    refine J_iadd Z.1 dX13_laysRound_28 ?_
    refine J_putI Z.1 dX13_laysRound_29 fl_X13_554 (fun q => by cases q) t0 rfl rfl (congrArg Value.int (hI_s _ _ _ _)) ?_
    refine J_th (fun h4 eh4 => ?_)
    replace hf := lt_i hf h4 eh4
    refine J_goto Z.1 7 dX13_laysRound_32 (by decide) ?_
    refine J_lv [1, 2, 0] rfl ?_
    exact hk7 _ _ hf
def pX13_laysRound_l7 (g : MT) (this : Nat) (p1 : Int32) (p2 : Int32) : Nat → Int32 → CT → Option CT
  | 0, _, _ => none
  | n + 1, l3, h => pX13_laysRound_b7 g this p1 p2 (pX13_laysRound_l7 g this p1 p2 n) l3 h
theorem pX13_laysRound_l7_ok {X : Cx} {G : Gx} {dk : Nat} {g : MT} {h0 : CT} {this : Nat} {p1 : Int32} {p2 : Int32} (Z : Zx X G cX13_laysRound RX13 4 dk none none g h0) (hK : 0 ≤ dk) (t0 : gT g this = 12) : ∀ (n : Nat) (l3 : Int32) (h : CT), pX13_laysRound_l7 g this p1 p2 n l3 h = some h0 → J X g h 7 [(0, va_rf (some this)), (2, .int p2), (3, .int l3)] [] := by
  intro n
  induction n with
  | zero => intro l3 h hf; cases hf
  | succ n ih => intro l3 h hf; exact pX13_laysRound_b7_ok Z hK t0 ih l3 h hf
def pX13_laysRound (g : MT) (h : CT) (this : Nat) (p1 : Int32) (p2 : Int32) : Option CT := tg g this 12 (lt (sI h this 48 0) fun h1 => (pX13_laysRound_l7 g this p1 p2  FUEL p1 h1))
set_option maxRecDepth 10000 in
set_option maxHeartbeats 4000000 in
theorem pX13_laysRound_ok (G : Gx) (dk : Nat) (hK : 0 ≤ dk) {g : MT} {h h0 : CT} {this : Nat} {p1 : Int32} {p2 : Int32} (hf : pX13_laysRound g h this p1 p2 = some h0) : Ctr G dk yX13_laysRound cX13_laysRound 4 none [va_rf (some this), .int p1, .int p2] g h none g h0 := by
  refine Ctr.ofZ (lv := [(0, va_rf (some this)), (1, .int p1), (2, .int p2)]) (by decide +kernel) (by simp [cat_i, cat_l, cat_d, cat_rf]) rfl fun X Z => ?_
  unfold pX13_laysRound at hf
  replace hf := tg_i hf
  obtain ⟨t0, hf⟩ := hf
  refine J_iload_n Z.1 1 dX13_laysRound_0 rfl rfl ?_
  refine J_istore_n Z.1 (lv2 := [(3, .int p1), (0, va_rf (some this)), (1, .int p1), (2, .int p2)]) dX13_laysRound_1 rfl (zL Z (by decide)) rfl ?_
  refine J_aload_n Z.1 1 dX13_laysRound_2 rfl rfl ?_
  refine J_iconst Z.1 (v := 0) (by decide) dX13_laysRound_3 ?_
  refine J_putI Z.1 dX13_laysRound_4 fl_X13_554 (fun q => by cases q) t0 rfl rfl (congrArg Value.int (hI_s _ _ _ _)) ?_
  refine J_th (fun h1 eh1 => ?_)
  replace hf := lt_i hf h1 eh1
  refine J_lv [1, 3, 0] rfl ?_
  exact pX13_laysRound_l7_ok Z hK t0  FUEL _ _ hf
theorem dX13_whyNoRound_0 : decode cX13_whyNoRound 0 = .ok (.iload_n 2, 1) := by decide +kernel
theorem dX13_whyNoRound_1 : decode cX13_whyNoRound 1 = .ok (.i2l, 1) := by decide +kernel
theorem dX13_whyNoRound_2 : decode cX13_whyNoRound 2 = .ok (.lconst 0, 1) := by decide +kernel
theorem dX13_whyNoRound_3 : decode cX13_whyNoRound 3 = .ok (.iload_n 1, 1) := by decide +kernel
theorem dX13_whyNoRound_4 : decode cX13_whyNoRound 4 = .ok (.i2l, 1) := by decide +kernel
theorem dX13_whyNoRound_5 : decode cX13_whyNoRound 5 = .ok (.lconst 1, 1) := by decide +kernel
theorem dX13_whyNoRound_6 : decode cX13_whyNoRound 6 = .ok (.lsub, 1) := by decide +kernel
theorem dX13_whyNoRound_7 : decode cX13_whyNoRound 7 = .ok (.invokestatic 104, 3) := by decide +kernel
theorem dX13_whyNoRound_10 : decode cX13_whyNoRound 10 = .ok (.ifCond .ne 5, 3) := by decide +kernel
theorem dX13_whyNoRound_13 : decode cX13_whyNoRound 13 = .ok (.iconst 2, 1) := by decide +kernel
theorem dX13_whyNoRound_14 : decode cX13_whyNoRound 14 = .ok (.ireturn, 1) := by decide +kernel
theorem dX13_whyNoRound_15 : decode cX13_whyNoRound 15 = .ok (.iload_n 1, 1) := by decide +kernel
theorem dX13_whyNoRound_16 : decode cX13_whyNoRound 16 = .ok (.i2l, 1) := by decide +kernel
theorem dX13_whyNoRound_17 : decode cX13_whyNoRound 17 = .ok (.lconst 1, 1) := by decide +kernel
theorem dX13_whyNoRound_18 : decode cX13_whyNoRound 18 = .ok (.ldc2_w 560, 3) := by decide +kernel
theorem dX13_whyNoRound_21 : decode cX13_whyNoRound 21 = .ok (.invokestatic 104, 3) := by decide +kernel
theorem dX13_whyNoRound_24 : decode cX13_whyNoRound 24 = .ok (.ifCond .ne 7, 3) := by decide +kernel
theorem dX13_whyNoRound_27 : decode cX13_whyNoRound 27 = .ok (.iconst 5, 1) := by decide +kernel
theorem dX13_whyNoRound_28 : decode cX13_whyNoRound 28 = .ok (.goto 13, 3) := by decide +kernel
theorem dX13_whyNoRound_31 : decode cX13_whyNoRound 31 = .ok (.iload_n 2, 1) := by decide +kernel
theorem dX13_whyNoRound_32 : decode cX13_whyNoRound 32 = .ok (.ifCond .ne 8, 3) := by decide +kernel
theorem dX13_whyNoRound_35 : decode cX13_whyNoRound 35 = .ok (.bipush 8, 2) := by decide +kernel
theorem dX13_whyNoRound_37 : decode cX13_whyNoRound 37 = .ok (.goto 4, 3) := by decide +kernel
theorem dX13_whyNoRound_40 : decode cX13_whyNoRound 40 = .ok (.iconst 0, 1) := by decide +kernel
theorem dX13_whyNoRound_41 : decode cX13_whyNoRound 41 = .ok (.ireturn, 1) := by decide +kernel
def pX13_whyNoRound (this : Nat) (p1 : Int32) (p2 : Int32) : Int32 := if (pX13_isIn (Int32.toInt64 p2) 0 ((Int32.toInt64 p1) - 1)) = 0 then 2 else if (pX13_isIn (Int32.toInt64 p1) 1 16) = 0 then 5 else if p2 = 0 then 8 else 0
set_option maxRecDepth 10000 in
set_option maxHeartbeats 4000000 in
theorem pX13_whyNoRound_ok (G : Gx) (dk : Nat) (hK : 1 ≤ dk) (g : MT) (h0 : CT) (this : Nat) (p1 : Int32) (p2 : Int32) : Ctr G dk yX13_whyNoRound cX13_whyNoRound 3 (some .int) [va_rf (some this), .int p1, .int p2] g h0 (some (.int (pX13_whyNoRound this p1 p2))) g h0 := by
  obtain ⟨r0, hf⟩ : ∃ z, pX13_whyNoRound this p1 p2 = z := ⟨_, rfl⟩
  rw [hf]
  refine Ctr.ofZ (lv := [(0, va_rf (some this)), (1, .int p1), (2, .int p2)]) (by decide +kernel) (by simp [cat_i, cat_l, cat_d, cat_rf]) rfl fun X Z => ?_
  unfold pX13_whyNoRound at hf
  refine J_iload_n Z.1 2 dX13_whyNoRound_0 rfl rfl ?_
  refine J_i2l Z.1 dX13_whyNoRound_1 ?_
  refine J_lconst Z.1 (v := 0) (by decide) dX13_whyNoRound_2 ?_
  refine J_iload_n Z.1 1 dX13_whyNoRound_3 rfl rfl ?_
  refine J_i2l Z.1 dX13_whyNoRound_4 ?_
  refine J_lconst Z.1 (v := 1) (by decide) dX13_whyNoRound_5 ?_
  refine J_lsub Z.1 dX13_whyNoRound_6 ?_
  refine J_callS (as := [.long (Int32.toInt64 p2), .long 0, .long ((Int32.toInt64 p1) - 1)]) (rest := []) (sy := [.int (pX13_isIn (Int32.toInt64 p2) 0 ((Int32.toInt64 p1) - 1))]) Z.1 dX13_whyNoRound_7 cw_X13_104 (pX13_isIn_ok G (dk - 1) (by omega) g h0 (Int32.toInt64 p2) 0 ((Int32.toInt64 p1) - 1)) (zG Z) rfl (by decide) (zF Z (by omega)) (zO Z (by omega) (by decide)) (zM _) Z.2.1 Z.2.1 rfl rfl ?_
  refine J_if_ne Z.1 15 dX13_whyNoRound_10 (by decide) (fun c1 => ?_) (fun c1 => ?_)
  · rw [if_neg c1] at hf
    refine J_iload_n Z.1 1 dX13_whyNoRound_15 rfl rfl ?_
    refine J_i2l Z.1 dX13_whyNoRound_16 ?_
    refine J_lconst Z.1 (v := 1) (by decide) dX13_whyNoRound_17 ?_
    refine J_ldc2 Z.1 q_2086 dX13_whyNoRound_18 ?_
    refine J_callS (as := [.long (Int32.toInt64 p1), .long 1, .long 16]) (rest := []) (sy := [.int (pX13_isIn (Int32.toInt64 p1) 1 16)]) Z.1 dX13_whyNoRound_21 cw_X13_104 (pX13_isIn_ok G (dk - 1) (by omega) g h0 (Int32.toInt64 p1) 1 16) (zG Z) rfl (by decide) (zF Z (by omega)) (zO Z (by omega) (by decide)) (zM _) Z.2.1 Z.2.1 rfl rfl ?_
    refine J_if_ne Z.1 31 dX13_whyNoRound_24 (by decide) (fun c2 => ?_) (fun c2 => ?_)
    · rw [if_neg c2] at hf
      refine J_iload_n Z.1 2 dX13_whyNoRound_31 rfl rfl ?_
      refine J_if_ne Z.1 40 dX13_whyNoRound_32 (by decide) (fun c3 => ?_) (fun c3 => ?_)
      · rw [if_neg c3] at hf
        refine J_iconst Z.1 (v := 0) (by decide) dX13_whyNoRound_40 ?_
        cases hf
        exact J_iret Z.1 Z.2.2.2.2.2 dX13_whyNoRound_41
      · rw [if_pos c3] at hf
        refine J_bipush Z.1 (v := 8) (by decide) dX13_whyNoRound_35 ?_
        refine J_goto Z.1 41 dX13_whyNoRound_37 (by decide) ?_
        cases hf
        exact J_iret Z.1 Z.2.2.2.2.2 dX13_whyNoRound_41
    · rw [if_pos c2] at hf
      refine J_iconst Z.1 (v := 5) (by decide) dX13_whyNoRound_27 ?_
      refine J_goto Z.1 41 dX13_whyNoRound_28 (by decide) ?_
      cases hf
      exact J_iret Z.1 Z.2.2.2.2.2 dX13_whyNoRound_41
  · rw [if_pos c1] at hf
    refine J_iconst Z.1 (v := 2) (by decide) dX13_whyNoRound_13 ?_
    cases hf
    exact J_iret Z.1 Z.2.2.2.2.2 dX13_whyNoRound_14
theorem dX13_roundOf_0 : decode cX13_roundOf 0 = .ok (.aload_n 0, 1) := by decide +kernel
theorem dX13_roundOf_1 : decode cX13_roundOf 1 = .ok (.iconst 0, 1) := by decide +kernel
theorem dX13_roundOf_2 : decode cX13_roundOf 2 = .ok (.putfield 71, 3) := by decide +kernel
theorem dX13_roundOf_5 : decode cX13_roundOf 5 = .ok (.aload_n 0, 1) := by decide +kernel
theorem dX13_roundOf_6 : decode cX13_roundOf 6 = .ok (.aload_n 0, 1) := by decide +kernel
theorem dX13_roundOf_7 : decode cX13_roundOf 7 = .ok (.iload_n 1, 1) := by decide +kernel
theorem dX13_roundOf_8 : decode cX13_roundOf 8 = .ok (.iload_n 2, 1) := by decide +kernel
theorem dX13_roundOf_9 : decode cX13_roundOf 9 = .ok (.invokevirtual 562, 3) := by decide +kernel
theorem dX13_roundOf_12 : decode cX13_roundOf 12 = .ok (.putfield 74, 3) := by decide +kernel
theorem dX13_roundOf_15 : decode cX13_roundOf 15 = .ok (.aload_n 0, 1) := by decide +kernel
theorem dX13_roundOf_16 : decode cX13_roundOf 16 = .ok (.getfield 74, 3) := by decide +kernel
theorem dX13_roundOf_19 : decode cX13_roundOf 19 = .ok (.ifCond .le 5, 3) := by decide +kernel
theorem dX13_roundOf_22 : decode cX13_roundOf 22 = .ok (.iconst (-1), 1) := by decide +kernel
theorem dX13_roundOf_23 : decode cX13_roundOf 23 = .ok (.ireturn, 1) := by decide +kernel
theorem dX13_roundOf_24 : decode cX13_roundOf 24 = .ok (.aload_n 0, 1) := by decide +kernel
theorem dX13_roundOf_25 : decode cX13_roundOf 25 = .ok (.iload_n 1, 1) := by decide +kernel
theorem dX13_roundOf_26 : decode cX13_roundOf 26 = .ok (.iload_n 2, 1) := by decide +kernel
theorem dX13_roundOf_27 : decode cX13_roundOf 27 = .ok (.invokevirtual 565, 3) := by decide +kernel
theorem dX13_roundOf_30 : decode cX13_roundOf 30 = .ok (.aload_n 0, 1) := by decide +kernel
theorem dX13_roundOf_31 : decode cX13_roundOf 31 = .ok (.getfield 554, 3) := by decide +kernel
theorem dX13_roundOf_34 : decode cX13_roundOf 34 = .ok (.ireturn, 1) := by decide +kernel
def pX13_roundOf (g : MT) (h : CT) (this : Nat) (p1 : Int32) (p2 : Int32) : Option ((Int32) × CT) := tg g this 12 (lt (sI h this 1 0) fun h1 => (lt (sI h1 this 0 (pX13_whyNoRound this p1 p2)) fun h2 => (if (hI h2 this 0) ≤ 0 then bd (pX13_laysRound g h2 this p1 p2) fun h4 => (some ((hI h4 this 48), h4)) else some ((-1), h2))))
set_option maxRecDepth 10000 in
set_option maxHeartbeats 4000000 in
theorem pX13_roundOf_ok (G : Gx) (dk : Nat) (hK : 2 ≤ dk) {g : MT} {h h0 : CT} {this : Nat} {p1 : Int32} {p2 : Int32} {r0 : Int32} (hf : pX13_roundOf g h this p1 p2 = some (r0, h0)) : Ctr G dk yX13_roundOf cX13_roundOf 3 (some .int) [va_rf (some this), .int p1, .int p2] g h (some (.int r0)) g h0 := by
  refine Ctr.ofZ (lv := [(0, va_rf (some this)), (1, .int p1), (2, .int p2)]) (by decide +kernel) (by simp [cat_i, cat_l, cat_d, cat_rf]) rfl fun X Z => ?_
  unfold pX13_roundOf at hf
  replace hf := tg_i hf
  obtain ⟨t0, hf⟩ := hf
  refine J_aload_n Z.1 0 dX13_roundOf_0 rfl rfl ?_
  refine J_iconst Z.1 (v := 0) (by decide) dX13_roundOf_1 ?_
  refine J_putI Z.1 dX13_roundOf_2 fl_X13_71 (fun q => by cases q) t0 rfl rfl (congrArg Value.int (hI_s _ _ _ _)) ?_
  refine J_th (fun h1 eh1 => ?_)
  replace hf := lt_i hf h1 eh1
  refine J_aload_n Z.1 0 dX13_roundOf_5 rfl rfl ?_
  refine J_aload_n Z.1 0 dX13_roundOf_6 rfl rfl ?_
  refine J_iload_n Z.1 1 dX13_roundOf_7 rfl rfl ?_
  refine J_iload_n Z.1 2 dX13_roundOf_8 rfl rfl ?_
  refine J_callV (ci := 11) (as := [.int p1, .int p2]) (rest := [va_rf (some this)]) (sy := [.int (pX13_whyNoRound this p1 p2), va_rf (some this)]) Z.1 dX13_roundOf_9 cw_X13_562 (pX13_whyNoRound_ok G (dk - 1) (by omega) g h1 this p1 p2) rfl rfl t0 (zG Z) rfl (by simp [cat_i, cat_l, cat_d, cat_rf]) (zF Z (by omega)) (zO Z (by omega) (by decide)) (zM _) Z.2.1 Z.2.1 rfl rfl ?_
  refine J_putI Z.1 dX13_roundOf_12 fl_X13_74 (fun q => by cases q) t0 rfl rfl (congrArg Value.int (hI_s _ _ _ _)) ?_
  refine J_th (fun h2 eh2 => ?_)
  replace hf := lt_i hf h2 eh2
  refine J_aload_n Z.1 0 dX13_roundOf_15 rfl rfl ?_
  refine J_get (v := .int (hI h2 this 0)) Z.1 dX13_roundOf_16 fl_X13_74 t0 rfl ?_
  refine J_if_le Z.1 24 dX13_roundOf_19 (by decide) (fun c3 => ?_) (fun c3 => ?_)
  · rw [if_pos c3] at hf
    refine J_aload_n Z.1 0 dX13_roundOf_24 rfl rfl ?_
    refine J_iload_n Z.1 1 dX13_roundOf_25 rfl rfl ?_
    refine J_iload_n Z.1 2 dX13_roundOf_26 rfl rfl ?_
    replace hf := bd_i hf
    obtain ⟨h4, q5, hf⟩ := hf
    refine J_callV (ci := 11) (as := [.int p1, .int p2]) (rest := []) (sy := []) Z.1 dX13_roundOf_27 cw_X13_565 (pX13_laysRound_ok G (dk - 1) (by omega) q5) rfl rfl t0 (zG Z) rfl (by decide) (zF Z (by omega)) (zO Z (by omega) (by decide)) (zM _) Z.2.1 Z.2.1 rfl rfl ?_
    refine J_aload_n Z.1 0 dX13_roundOf_30 rfl rfl ?_
    refine J_get (v := .int (hI h4 this 48)) Z.1 dX13_roundOf_31 fl_X13_554 t0 rfl ?_
    cases hf
    exact J_iret Z.1 Z.2.2.2.2.2 dX13_roundOf_34
  · rw [if_neg c3] at hf
    refine J_iconst Z.1 (v := (-1)) (by decide) dX13_roundOf_22 ?_
    cases hf
    exact J_iret Z.1 Z.2.2.2.2.2 dX13_roundOf_23
theorem dX13_partnerOf_0 : decode cX13_partnerOf 0 = .ok (.aload_n 0, 1) := by decide +kernel
theorem dX13_partnerOf_1 : decode cX13_partnerOf 1 = .ok (.iconst 0, 1) := by decide +kernel
theorem dX13_partnerOf_2 : decode cX13_partnerOf 2 = .ok (.putfield 71, 3) := by decide +kernel
theorem dX13_partnerOf_5 : decode cX13_partnerOf 5 = .ok (.aload_n 0, 1) := by decide +kernel
theorem dX13_partnerOf_6 : decode cX13_partnerOf 6 = .ok (.aload_n 0, 1) := by decide +kernel
theorem dX13_partnerOf_7 : decode cX13_partnerOf 7 = .ok (.iload_n 1, 1) := by decide +kernel
theorem dX13_partnerOf_8 : decode cX13_partnerOf 8 = .ok (.iload_n 2, 1) := by decide +kernel
theorem dX13_partnerOf_9 : decode cX13_partnerOf 9 = .ok (.invokevirtual 562, 3) := by decide +kernel
theorem dX13_partnerOf_12 : decode cX13_partnerOf 12 = .ok (.putfield 74, 3) := by decide +kernel
theorem dX13_partnerOf_15 : decode cX13_partnerOf 15 = .ok (.aload_n 0, 1) := by decide +kernel
theorem dX13_partnerOf_16 : decode cX13_partnerOf 16 = .ok (.getfield 74, 3) := by decide +kernel
theorem dX13_partnerOf_19 : decode cX13_partnerOf 19 = .ok (.ifCond .le 5, 3) := by decide +kernel
theorem dX13_partnerOf_22 : decode cX13_partnerOf 22 = .ok (.iconst (-1), 1) := by decide +kernel
theorem dX13_partnerOf_23 : decode cX13_partnerOf 23 = .ok (.ireturn, 1) := by decide +kernel
theorem dX13_partnerOf_24 : decode cX13_partnerOf 24 = .ok (.aload_n 0, 1) := by decide +kernel
theorem dX13_partnerOf_25 : decode cX13_partnerOf 25 = .ok (.iload_n 1, 1) := by decide +kernel
theorem dX13_partnerOf_26 : decode cX13_partnerOf 26 = .ok (.iload_n 2, 1) := by decide +kernel
theorem dX13_partnerOf_27 : decode cX13_partnerOf 27 = .ok (.invokevirtual 565, 3) := by decide +kernel
theorem dX13_partnerOf_30 : decode cX13_partnerOf 30 = .ok (.aload_n 0, 1) := by decide +kernel
theorem dX13_partnerOf_31 : decode cX13_partnerOf 31 = .ok (.getfield 557, 3) := by decide +kernel
theorem dX13_partnerOf_34 : decode cX13_partnerOf 34 = .ok (.ireturn, 1) := by decide +kernel
def pX13_partnerOf (g : MT) (h : CT) (this : Nat) (p1 : Int32) (p2 : Int32) : Option ((Int32) × CT) := tg g this 12 (lt (sI h this 1 0) fun h1 => (lt (sI h1 this 0 (pX13_whyNoRound this p1 p2)) fun h2 => (if (hI h2 this 0) ≤ 0 then bd (pX13_laysRound g h2 this p1 p2) fun h4 => (some ((hI h4 this 49), h4)) else some ((-1), h2))))
set_option maxRecDepth 10000 in
set_option maxHeartbeats 4000000 in
theorem pX13_partnerOf_ok (G : Gx) (dk : Nat) (hK : 2 ≤ dk) {g : MT} {h h0 : CT} {this : Nat} {p1 : Int32} {p2 : Int32} {r0 : Int32} (hf : pX13_partnerOf g h this p1 p2 = some (r0, h0)) : Ctr G dk yX13_partnerOf cX13_partnerOf 3 (some .int) [va_rf (some this), .int p1, .int p2] g h (some (.int r0)) g h0 := by
  refine Ctr.ofZ (lv := [(0, va_rf (some this)), (1, .int p1), (2, .int p2)]) (by decide +kernel) (by simp [cat_i, cat_l, cat_d, cat_rf]) rfl fun X Z => ?_
  unfold pX13_partnerOf at hf
  replace hf := tg_i hf
  obtain ⟨t0, hf⟩ := hf
  refine J_aload_n Z.1 0 dX13_partnerOf_0 rfl rfl ?_
  refine J_iconst Z.1 (v := 0) (by decide) dX13_partnerOf_1 ?_
  refine J_putI Z.1 dX13_partnerOf_2 fl_X13_71 (fun q => by cases q) t0 rfl rfl (congrArg Value.int (hI_s _ _ _ _)) ?_
  refine J_th (fun h1 eh1 => ?_)
  replace hf := lt_i hf h1 eh1
  refine J_aload_n Z.1 0 dX13_partnerOf_5 rfl rfl ?_
  refine J_aload_n Z.1 0 dX13_partnerOf_6 rfl rfl ?_
  refine J_iload_n Z.1 1 dX13_partnerOf_7 rfl rfl ?_
  refine J_iload_n Z.1 2 dX13_partnerOf_8 rfl rfl ?_
  refine J_callV (ci := 11) (as := [.int p1, .int p2]) (rest := [va_rf (some this)]) (sy := [.int (pX13_whyNoRound this p1 p2), va_rf (some this)]) Z.1 dX13_partnerOf_9 cw_X13_562 (pX13_whyNoRound_ok G (dk - 1) (by omega) g h1 this p1 p2) rfl rfl t0 (zG Z) rfl (by simp [cat_i, cat_l, cat_d, cat_rf]) (zF Z (by omega)) (zO Z (by omega) (by decide)) (zM _) Z.2.1 Z.2.1 rfl rfl ?_
  refine J_putI Z.1 dX13_partnerOf_12 fl_X13_74 (fun q => by cases q) t0 rfl rfl (congrArg Value.int (hI_s _ _ _ _)) ?_
  refine J_th (fun h2 eh2 => ?_)
  replace hf := lt_i hf h2 eh2
  refine J_aload_n Z.1 0 dX13_partnerOf_15 rfl rfl ?_
  refine J_get (v := .int (hI h2 this 0)) Z.1 dX13_partnerOf_16 fl_X13_74 t0 rfl ?_
  refine J_if_le Z.1 24 dX13_partnerOf_19 (by decide) (fun c3 => ?_) (fun c3 => ?_)
  · rw [if_pos c3] at hf
    refine J_aload_n Z.1 0 dX13_partnerOf_24 rfl rfl ?_
    refine J_iload_n Z.1 1 dX13_partnerOf_25 rfl rfl ?_
    refine J_iload_n Z.1 2 dX13_partnerOf_26 rfl rfl ?_
    replace hf := bd_i hf
    obtain ⟨h4, q5, hf⟩ := hf
    refine J_callV (ci := 11) (as := [.int p1, .int p2]) (rest := []) (sy := []) Z.1 dX13_partnerOf_27 cw_X13_565 (pX13_laysRound_ok G (dk - 1) (by omega) q5) rfl rfl t0 (zG Z) rfl (by decide) (zF Z (by omega)) (zO Z (by omega) (by decide)) (zM _) Z.2.1 Z.2.1 rfl rfl ?_
    refine J_aload_n Z.1 0 dX13_partnerOf_30 rfl rfl ?_
    refine J_get (v := .int (hI h4 this 49)) Z.1 dX13_partnerOf_31 fl_X13_557 t0 rfl ?_
    cases hf
    exact J_iret Z.1 Z.2.2.2.2.2 dX13_partnerOf_34
  · rw [if_neg c3] at hf
    refine J_iconst Z.1 (v := (-1)) (by decide) dX13_partnerOf_22 ?_
    cases hf
    exact J_iret Z.1 Z.2.2.2.2.2 dX13_partnerOf_23
theorem dX13_alone_0 : decode cX13_alone 0 = .ok (.iconst 0, 1) := by decide +kernel
theorem dX13_alone_1 : decode cX13_alone 1 = .ok (.istore 5, 2) := by decide +kernel
theorem dX13_alone_3 : decode cX13_alone 3 = .ok (.iload 5, 2) := by decide +kernel
theorem dX13_alone_5 : decode cX13_alone 5 = .ok (.bipush 16, 2) := by decide +kernel
theorem dX13_alone_7 : decode cX13_alone 7 = .ok (.if_icmp .ge 18, 3) := by decide +kernel
theorem dX13_alone_10 : decode cX13_alone 10 = .ok (.aload_n 0, 1) := by decide +kernel
theorem dX13_alone_11 : decode cX13_alone 11 = .ok (.getfield 68, 3) := by decide +kernel
theorem dX13_alone_14 : decode cX13_alone 14 = .ok (.iload 5, 2) := by decide +kernel
theorem dX13_alone_16 : decode cX13_alone 16 = .ok (.bipush (-12), 2) := by decide +kernel
theorem dX13_alone_18 : decode cX13_alone 18 = .ok (.iastore, 1) := by decide +kernel
theorem dX13_alone_19 : decode cX13_alone 19 = .ok (.iinc 5 1, 3) := by decide +kernel
theorem dX13_alone_22 : decode cX13_alone 22 = .ok (.goto (-19), 3) := by decide +kernel
theorem dX13_alone_25 : decode cX13_alone 25 = .ok (.iconst (-1), 1) := by decide +kernel
theorem dX13_alone_26 : decode cX13_alone 26 = .ok (.istore 5, 2) := by decide +kernel
theorem dX13_alone_28 : decode cX13_alone 28 = .ok (.iconst 0, 1) := by decide +kernel
theorem dX13_alone_29 : decode cX13_alone 29 = .ok (.istore 6, 2) := by decide +kernel
theorem dX13_alone_31 : decode cX13_alone 31 = .ok (.iconst 0, 1) := by decide +kernel
theorem dX13_alone_32 : decode cX13_alone 32 = .ok (.istore 7, 2) := by decide +kernel
theorem dX13_alone_34 : decode cX13_alone 34 = .ok (.iload 7, 2) := by decide +kernel
theorem dX13_alone_36 : decode cX13_alone 36 = .ok (.iload_n 3, 1) := by decide +kernel
theorem dX13_alone_37 : decode cX13_alone 37 = .ok (.if_icmp .ge 74, 3) := by decide +kernel
theorem dX13_alone_40 : decode cX13_alone 40 = .ok (.iload_n 1, 1) := by decide +kernel
theorem dX13_alone_41 : decode cX13_alone 41 = .ok (.iload_n 2, 1) := by decide +kernel
theorem dX13_alone_42 : decode cX13_alone 42 = .ok (.iload 7, 2) := by decide +kernel
theorem dX13_alone_44 : decode cX13_alone 44 = .ok (.imul, 1) := by decide +kernel
theorem dX13_alone_45 : decode cX13_alone 45 = .ok (.iadd, 1) := by decide +kernel
theorem dX13_alone_46 : decode cX13_alone 46 = .ok (.bipush 64, 2) := by decide +kernel
theorem dX13_alone_48 : decode cX13_alone 48 = .ok (.irem, 1) := by decide +kernel
theorem dX13_alone_49 : decode cX13_alone 49 = .ok (.iload 4, 2) := by decide +kernel
theorem dX13_alone_51 : decode cX13_alone 51 = .ok (.irem, 1) := by decide +kernel
theorem dX13_alone_52 : decode cX13_alone 52 = .ok (.istore 8, 2) := by decide +kernel
theorem dX13_alone_54 : decode cX13_alone 54 = .ok (.aload_n 0, 1) := by decide +kernel
theorem dX13_alone_55 : decode cX13_alone 55 = .ok (.getfield 68, 3) := by decide +kernel
theorem dX13_alone_58 : decode cX13_alone 58 = .ok (.iload 8, 2) := by decide +kernel
theorem dX13_alone_60 : decode cX13_alone 60 = .ok (.iaload, 1) := by decide +kernel
theorem dX13_alone_61 : decode cX13_alone 61 = .ok (.aload_n 0, 1) := by decide +kernel
theorem dX13_alone_62 : decode cX13_alone 62 = .ok (.getfield 31, 3) := by decide +kernel
theorem dX13_alone_65 : decode cX13_alone 65 = .ok (.iconst 2, 1) := by decide +kernel
theorem dX13_alone_66 : decode cX13_alone 66 = .ok (.iaload, 1) := by decide +kernel
theorem dX13_alone_67 : decode cX13_alone 67 = .ok (.iadd, 1) := by decide +kernel
theorem dX13_alone_68 : decode cX13_alone 68 = .ok (.istore 9, 2) := by decide +kernel
theorem dX13_alone_70 : decode cX13_alone 70 = .ok (.iinc 5 1, 3) := by decide +kernel
theorem dX13_alone_73 : decode cX13_alone 73 = .ok (.iload 6, 2) := by decide +kernel
theorem dX13_alone_75 : decode cX13_alone 75 = .ok (.iconst 0, 1) := by decide +kernel
theorem dX13_alone_76 : decode cX13_alone 76 = .ok (.iload 9, 2) := by decide +kernel
theorem dX13_alone_78 : decode cX13_alone 78 = .ok (.iload 5, 2) := by decide +kernel
theorem dX13_alone_80 : decode cX13_alone 80 = .ok (.isub, 1) := by decide +kernel
theorem dX13_alone_81 : decode cX13_alone 81 = .ok (.invokestatic 178, 3) := by decide +kernel
theorem dX13_alone_84 : decode cX13_alone 84 = .ok (.iadd, 1) := by decide +kernel
theorem dX13_alone_85 : decode cX13_alone 85 = .ok (.istore 6, 2) := by decide +kernel
theorem dX13_alone_87 : decode cX13_alone 87 = .ok (.iload 5, 2) := by decide +kernel
theorem dX13_alone_89 : decode cX13_alone 89 = .ok (.iload 9, 2) := by decide +kernel
theorem dX13_alone_91 : decode cX13_alone 91 = .ok (.invokestatic 178, 3) := by decide +kernel
theorem dX13_alone_94 : decode cX13_alone 94 = .ok (.istore 5, 2) := by decide +kernel
theorem dX13_alone_96 : decode cX13_alone 96 = .ok (.aload_n 0, 1) := by decide +kernel
theorem dX13_alone_97 : decode cX13_alone 97 = .ok (.getfield 68, 3) := by decide +kernel
theorem dX13_alone_100 : decode cX13_alone 100 = .ok (.iload 8, 2) := by decide +kernel
theorem dX13_alone_102 : decode cX13_alone 102 = .ok (.iload 5, 2) := by decide +kernel
theorem dX13_alone_104 : decode cX13_alone 104 = .ok (.iastore, 1) := by decide +kernel
theorem dX13_alone_105 : decode cX13_alone 105 = .ok (.iinc 7 1, 3) := by decide +kernel
theorem dX13_alone_108 : decode cX13_alone 108 = .ok (.goto (-74), 3) := by decide +kernel
theorem dX13_alone_111 : decode cX13_alone 111 = .ok (.iload 6, 2) := by decide +kernel
theorem dX13_alone_113 : decode cX13_alone 113 = .ok (.ireturn, 1) := by decide +kernel
def pX13_alone_b34 (g : MT) (this : Nat) (p1 : Int32) (p2 : Int32) (p3 : Int32) (p4 : Int32) (k34 : Int32 → Int32 → Int32 → CT → Option ((Int32) × CT)) (l5 : Int32) (l6 : Int32) (l7 : Int32) (h : CT) : Option ((Int32) × CT) := if p3 ≤ l7 then some (l6, h) else dvI p4 (lt (((p1 + (p2 * l7)) - (p1 + (p2 * l7)) / 64 * 64) - ((p1 + (p2 * l7)) - (p1 + (p2 * l7)) / 64 * 64) / p4 * p4) fun x3 => (lt (hR h this 50) fun r4 => (nn r4 fun a4 => (tg g a4 20 (ix (gL g a4) x3 (lt (hR h this 19) fun r7 => (nn r7 fun a7 => (tg g a7 20 (ix (gL g a7) 2 (lt ((hI h a4 (Int32.toNatClampNeg x3)) + (hI h a7 (Int32.toNatClampNeg 2))) fun x10 => (lt (l5 + 1) fun x11 => (lt (l6 + (pJ9_max_7cf53 0 (x10 - x11))) fun x12 => (lt (pJ9_max_7cf53 x11 x10) fun x13 => (lt (hR h this 50) fun r14 => (nn r14 fun a14 => (tg g a14 20 (ix (gL g a14) x3 (lt (sI h a14 (Int32.toNatClampNeg x3) x13) fun h17 => (lt (l7 + 1) fun x18 => (k34 x13 x12 x18 h17))))))))))))))))))))
set_option maxRecDepth 10000 in
set_option maxHeartbeats 4000000 in
theorem pX13_alone_b34_ok {X : Cx} {G : Gx} {dk : Nat} {g : MT} {r0 : Int32} {h0 : CT} {this : Nat} {p1 : Int32} {p2 : Int32} {p3 : Int32} {p4 : Int32} {k34 : Int32 → Int32 → Int32 → CT → Option ((Int32) × CT)} (Z : Zx X G cX13_alone RX13 10 dk (some .int) (some (.int r0)) g h0) (hK : 1 ≤ dk) (t0 : gT g this = 12) (hk34 : ∀ (l5 : Int32) (l6 : Int32) (l7 : Int32) (h : CT), k34 l5 l6 l7 h = some (r0, h0) → J X g h 34 [(0, va_rf (some this)), (1, .int p1), (2, .int p2), (3, .int p3), (4, .int p4), (5, .int l5), (6, .int l6), (7, .int l7)] []) (l5 : Int32) (l6 : Int32) (l7 : Int32) (h : CT) (hf : pX13_alone_b34 g this p1 p2 p3 p4 k34 l5 l6 l7 h = some (r0, h0)) : J X g h 34 [(0, va_rf (some this)), (1, .int p1), (2, .int p2), (3, .int p3), (4, .int p4), (5, .int l5), (6, .int l6), (7, .int l7)] [] := by
  unfold pX13_alone_b34 at hf
  refine J_iload Z.1 7 dX13_alone_34 rfl ?_
  refine J_iload_n Z.1 3 dX13_alone_36 rfl rfl ?_
  refine J_icmp_ge Z.1 111 dX13_alone_37 (by decide) (fun c1 => ?_) (fun c1 => ?_)
  · rw [if_pos c1] at hf
    refine J_iload Z.1 6 dX13_alone_111 rfl ?_
    cases hf
    exact J_iret Z.1 Z.2.2.2.2.2 dX13_alone_113
  · rw [if_neg c1] at hf
    refine J_iload_n Z.1 1 dX13_alone_40 rfl rfl ?_
    refine J_iload_n Z.1 2 dX13_alone_41 rfl rfl ?_
    refine J_iload Z.1 7 dX13_alone_42 rfl ?_
    refine J_imul Z.1 dX13_alone_44 ?_
    refine J_iadd Z.1 dX13_alone_45 ?_
    refine J_bipush Z.1 (v := 64) (by decide) dX13_alone_46 ?_
    refine J_irem Z.1 (by decide) dX13_alone_48 ?_
    refine J_iload Z.1 4 dX13_alone_49 rfl ?_
    replace hf := dvI_i hf
    obtain ⟨z2, hf⟩ := hf
    refine J_irem Z.1 z2 dX13_alone_51 ?_
    refine J_ti (fun x3 ex3 => ?_)
    replace hf := lt_i hf x3 ex3
    refine J_istore Z.1 (lv2 := [(8, .int x3), (0, va_rf (some this)), (1, .int p1), (2, .int p2), (3, .int p3), (4, .int p4), (5, .int l5), (6, .int l6), (7, .int l7)]) dX13_alone_52 (zL Z (by decide)) rfl ?_
    refine J_aload_n Z.1 1 dX13_alone_54 rfl rfl ?_
    refine J_get (v := va_rf (hR h this 50)) Z.1 dX13_alone_55 fl_X13_68 t0 rfl ?_
    refine J_tr (fun r4 er4 => ?_)
    replace hf := lt_i hf r4 er4
    refine J_iload Z.1 0 dX13_alone_58 rfl ?_
    replace hf := nn_i hf
    obtain ⟨a4, rfl, hf⟩ := hf
    replace hf := tg_i hf
    obtain ⟨t5, hf⟩ := hf
    replace hf := ix_i hf
    obtain ⟨i6, hf⟩ := hf
    refine J_iaload Z.1 dX13_alone_60 t5 i6 ?_
    refine J_aload_n Z.1 1 dX13_alone_61 rfl rfl ?_
    refine J_get (v := va_rf (hR h this 19)) Z.1 dX13_alone_62 fl_X13_31 t0 rfl ?_
    refine J_tr (fun r7 er7 => ?_)
    replace hf := lt_i hf r7 er7
    refine J_iconst Z.1 (v := 2) (by decide) dX13_alone_65 ?_
    replace hf := nn_i hf
    obtain ⟨a7, rfl, hf⟩ := hf
    replace hf := tg_i hf
    obtain ⟨t8, hf⟩ := hf
    replace hf := ix_i hf
    obtain ⟨i9, hf⟩ := hf
    refine J_iaload Z.1 dX13_alone_66 t8 i9 ?_
    refine J_iadd Z.1 dX13_alone_67 ?_
    refine J_ti (fun x10 ex10 => ?_)
    replace hf := lt_i hf x10 ex10
    refine J_istore Z.1 (lv2 := [(9, .int x10), (8, .int x3), (0, va_rf (some this)), (1, .int p1), (2, .int p2), (3, .int p3), (4, .int p4), (5, .int l5), (6, .int l6), (7, .int l7)]) dX13_alone_68 (zL Z (by decide)) rfl ?_
    refine J_iinc Z.1 (v := 1) (lv2 := [(5, .int (l5 + 1)), (9, .int x10), (8, .int x3), (0, va_rf (some this)), (1, .int p1), (2, .int p2), (3, .int p3), (4, .int p4), (6, .int l6), (7, .int l7)]) 7 dX13_alone_70 rfl (by decide) (zL Z (by decide)) rfl ?_
    obtain ⟨x11, ex11⟩ : ∃ z, z = (l5 + 1) := ⟨_, rfl⟩
    replace hf := lt_i hf x11 ex11
    rw [← ex11]
    refine J_iload Z.1 8 dX13_alone_73 rfl ?_
    refine J_iconst Z.1 (v := 0) (by decide) dX13_alone_75 ?_
    refine J_iload Z.1 1 dX13_alone_76 rfl ?_
    refine J_iload Z.1 0 dX13_alone_78 rfl ?_
    refine J_isub Z.1 dX13_alone_80 ?_
    refine J_callS (as := [.int 0, .int (x10 - x11)]) (rest := [.int l6]) (sy := [.int (pJ9_max_7cf53 0 (x10 - x11)), .int l6]) Z.1 dX13_alone_81 cw_X13_178 (pJ9_max_7cf53_ok G (dk - 1) (by omega) g h 0 (x10 - x11)) (zG Z) rfl (by simp [cat_i, cat_l, cat_d, cat_rf]) (zF Z (by omega)) (zO Z (by omega) (by decide)) (zM _) Z.2.1 Z.2.1 rfl rfl ?_
    refine J_iadd Z.1 dX13_alone_84 ?_
    refine J_ti (fun x12 ex12 => ?_)
    replace hf := lt_i hf x12 ex12
    refine J_istore Z.1 (lv2 := [(6, .int x12), (5, .int x11), (9, .int x10), (8, .int x3), (0, va_rf (some this)), (1, .int p1), (2, .int p2), (3, .int p3), (4, .int p4), (7, .int l7)]) dX13_alone_85 (zL Z (by decide)) rfl ?_
    refine J_iload Z.1 1 dX13_alone_87 rfl ?_
    refine J_iload Z.1 2 dX13_alone_89 rfl ?_
    refine J_callS (as := [.int x11, .int x10]) (rest := []) (sy := [.int (pJ9_max_7cf53 x11 x10)]) Z.1 dX13_alone_91 cw_X13_178 (pJ9_max_7cf53_ok G (dk - 1) (by omega) g h x11 x10) (zG Z) rfl (by decide) (zF Z (by omega)) (zO Z (by omega) (by decide)) (zM _) Z.2.1 Z.2.1 rfl rfl ?_
    refine J_ti (fun x13 ex13 => ?_)
    replace hf := lt_i hf x13 ex13
    refine J_istore Z.1 (lv2 := [(5, .int x13), (6, .int x12), (9, .int x10), (8, .int x3), (0, va_rf (some this)), (1, .int p1), (2, .int p2), (3, .int p3), (4, .int p4), (7, .int l7)]) dX13_alone_94 (zL Z (by decide)) rfl ?_
    refine J_aload_n Z.1 4 dX13_alone_96 rfl rfl ?_
    refine J_get (v := va_rf (hR h this 50)) Z.1 dX13_alone_97 fl_X13_68 t0 rfl ?_
    refine J_tr (fun r14 er14 => ?_)
    replace hf := lt_i hf r14 er14
    refine J_iload Z.1 3 dX13_alone_100 rfl ?_
    refine J_iload Z.1 0 dX13_alone_102 rfl ?_
    replace hf := nn_i hf
    obtain ⟨a14, rfl, hf⟩ := hf
    replace hf := tg_i hf
    obtain ⟨t15, hf⟩ := hf
    replace hf := ix_i hf
    obtain ⟨i16, hf⟩ := hf
    refine J_iastore Z.1 dX13_alone_104 t15 i16 ?_
    refine J_th (fun h17 eh17 => ?_)
    replace hf := lt_i hf h17 eh17
    refine J_iinc Z.1 (v := 1) (lv2 := [(7, .int (l7 + 1)), (5, .int x13), (6, .int x12), (9, .int x10), (8, .int x3), (0, va_rf (some this)), (1, .int p1), (2, .int p2), (3, .int p3), (4, .int p4)]) 9 dX13_alone_105 rfl (by decide) (zL Z (by decide)) rfl ?_
    obtain ⟨x18, ex18⟩ : ∃ z, z = (l7 + 1) := ⟨_, rfl⟩
    replace hf := lt_i hf x18 ex18
    rw [← ex18]
    refine J_goto Z.1 34 dX13_alone_108 (by decide) ?_
    refine J_lv [5, 6, 7, 8, 9, 1, 2, 0] rfl ?_
    exact hk34 _ _ _ _ hf
def pX13_alone_l34 (g : MT) (this : Nat) (p1 : Int32) (p2 : Int32) (p3 : Int32) (p4 : Int32) : Nat → Int32 → Int32 → Int32 → CT → Option ((Int32) × CT)
  | 0, _, _, _, _ => none
  | n + 1, l5, l6, l7, h => pX13_alone_b34 g this p1 p2 p3 p4 (pX13_alone_l34 g this p1 p2 p3 p4 n) l5 l6 l7 h
theorem pX13_alone_l34_ok {X : Cx} {G : Gx} {dk : Nat} {g : MT} {r0 : Int32} {h0 : CT} {this : Nat} {p1 : Int32} {p2 : Int32} {p3 : Int32} {p4 : Int32} (Z : Zx X G cX13_alone RX13 10 dk (some .int) (some (.int r0)) g h0) (hK : 1 ≤ dk) (t0 : gT g this = 12) : ∀ (n : Nat) (l5 : Int32) (l6 : Int32) (l7 : Int32) (h : CT), pX13_alone_l34 g this p1 p2 p3 p4 n l5 l6 l7 h = some (r0, h0) → J X g h 34 [(0, va_rf (some this)), (1, .int p1), (2, .int p2), (3, .int p3), (4, .int p4), (5, .int l5), (6, .int l6), (7, .int l7)] [] := by
  intro n
  induction n with
  | zero => intro l5 l6 l7 h hf; cases hf
  | succ n ih => intro l5 l6 l7 h hf; exact pX13_alone_b34_ok Z hK t0 ih l5 l6 l7 h hf
def pX13_alone_b3 (g : MT) (this : Nat) (p1 : Int32) (p2 : Int32) (p3 : Int32) (p4 : Int32) (k3 : Int32 → CT → Option ((Int32) × CT)) (l5 : Int32) (h : CT) : Option ((Int32) × CT) := if 16 ≤ l5 then pX13_alone_l34 g this p1 p2 p3 p4  FUEL (-1) 0 0 h else lt (hR h this 50) fun r2 => (nn r2 fun a2 => (tg g a2 20 (ix (gL g a2) l5 (lt (sI h a2 (Int32.toNatClampNeg l5) (-12)) fun h5 => (lt (l5 + 1) fun x6 => (k3 x6 h5))))))
set_option maxRecDepth 10000 in
set_option maxHeartbeats 4000000 in
theorem pX13_alone_b3_ok {X : Cx} {G : Gx} {dk : Nat} {g : MT} {r0 : Int32} {h0 : CT} {this : Nat} {p1 : Int32} {p2 : Int32} {p3 : Int32} {p4 : Int32} {k3 : Int32 → CT → Option ((Int32) × CT)} (Z : Zx X G cX13_alone RX13 10 dk (some .int) (some (.int r0)) g h0) (hK : 1 ≤ dk) (t0 : gT g this = 12) (hk3 : ∀ (l5 : Int32) (h : CT), k3 l5 h = some (r0, h0) → J X g h 3 [(0, va_rf (some this)), (1, .int p1), (2, .int p2), (3, .int p3), (4, .int p4), (5, .int l5)] []) (l5 : Int32) (h : CT) (hf : pX13_alone_b3 g this p1 p2 p3 p4 k3 l5 h = some (r0, h0)) : J X g h 3 [(0, va_rf (some this)), (1, .int p1), (2, .int p2), (3, .int p3), (4, .int p4), (5, .int l5)] [] := by
  unfold pX13_alone_b3 at hf
  refine J_iload Z.1 5 dX13_alone_3 rfl ?_
  refine J_bipush Z.1 (v := 16) (by decide) dX13_alone_5 ?_
  refine J_icmp_ge Z.1 25 dX13_alone_7 (by decide) (fun c1 => ?_) (fun c1 => ?_)
  · rw [if_pos c1] at hf
    refine J_iconst Z.1 (v := (-1)) (by decide) dX13_alone_25 ?_
    refine J_istore Z.1 (lv2 := [(5, .int (-1)), (0, va_rf (some this)), (1, .int p1), (2, .int p2), (3, .int p3), (4, .int p4)]) dX13_alone_26 (zL Z (by decide)) rfl ?_
    refine J_iconst Z.1 (v := 0) (by decide) dX13_alone_28 ?_
    refine J_istore Z.1 (lv2 := [(6, .int 0), (5, .int (-1)), (0, va_rf (some this)), (1, .int p1), (2, .int p2), (3, .int p3), (4, .int p4)]) dX13_alone_29 (zL Z (by decide)) rfl ?_
    refine J_iconst Z.1 (v := 0) (by decide) dX13_alone_31 ?_
    refine J_istore Z.1 (lv2 := [(7, .int 0), (6, .int 0), (5, .int (-1)), (0, va_rf (some this)), (1, .int p1), (2, .int p2), (3, .int p3), (4, .int p4)]) dX13_alone_32 (zL Z (by decide)) rfl ?_
    refine J_lv [3, 4, 5, 6, 7, 2, 1, 0] rfl ?_
    exact pX13_alone_l34_ok Z hK t0  FUEL _ _ _ _ hf
  · rw [if_neg c1] at hf
    refine J_aload_n Z.1 0 dX13_alone_10 rfl rfl ?_
    refine J_get (v := va_rf (hR h this 50)) Z.1 dX13_alone_11 fl_X13_68 t0 rfl ?_
    refine J_tr (fun r2 er2 => ?_)
    replace hf := lt_i hf r2 er2
    refine J_iload Z.1 5 dX13_alone_14 rfl ?_
    refine J_bipush Z.1 (v := (-12)) (by decide) dX13_alone_16 ?_
    replace hf := nn_i hf
    obtain ⟨a2, rfl, hf⟩ := hf
    replace hf := tg_i hf
    obtain ⟨t3, hf⟩ := hf
    replace hf := ix_i hf
    obtain ⟨i4, hf⟩ := hf
    refine J_iastore Z.1 dX13_alone_18 t3 i4 ?_
    refine J_th (fun h5 eh5 => ?_)
    replace hf := lt_i hf h5 eh5
    refine J_iinc Z.1 (v := 1) (lv2 := [(5, .int (l5 + 1)), (0, va_rf (some this)), (1, .int p1), (2, .int p2), (3, .int p3), (4, .int p4)]) 5 dX13_alone_19 rfl (by decide) (zL Z (by decide)) rfl ?_
    obtain ⟨x6, ex6⟩ : ∃ z, z = (l5 + 1) := ⟨_, rfl⟩
    replace hf := lt_i hf x6 ex6
    rw [← ex6]
    refine J_goto Z.1 3 dX13_alone_22 (by decide) ?_
    refine J_lv [1, 2, 3, 4, 5, 0] rfl ?_
    exact hk3 _ _ hf
def pX13_alone_l3 (g : MT) (this : Nat) (p1 : Int32) (p2 : Int32) (p3 : Int32) (p4 : Int32) : Nat → Int32 → CT → Option ((Int32) × CT)
  | 0, _, _ => none
  | n + 1, l5, h => pX13_alone_b3 g this p1 p2 p3 p4 (pX13_alone_l3 g this p1 p2 p3 p4 n) l5 h
theorem pX13_alone_l3_ok {X : Cx} {G : Gx} {dk : Nat} {g : MT} {r0 : Int32} {h0 : CT} {this : Nat} {p1 : Int32} {p2 : Int32} {p3 : Int32} {p4 : Int32} (Z : Zx X G cX13_alone RX13 10 dk (some .int) (some (.int r0)) g h0) (hK : 1 ≤ dk) (t0 : gT g this = 12) : ∀ (n : Nat) (l5 : Int32) (h : CT), pX13_alone_l3 g this p1 p2 p3 p4 n l5 h = some (r0, h0) → J X g h 3 [(0, va_rf (some this)), (1, .int p1), (2, .int p2), (3, .int p3), (4, .int p4), (5, .int l5)] [] := by
  intro n
  induction n with
  | zero => intro l5 h hf; cases hf
  | succ n ih => intro l5 h hf; exact pX13_alone_b3_ok Z hK t0 ih l5 h hf
def pX13_alone (g : MT) (h : CT) (this : Nat) (p1 : Int32) (p2 : Int32) (p3 : Int32) (p4 : Int32) : Option ((Int32) × CT) := tg g this 12 (pX13_alone_l3 g this p1 p2 p3 p4  FUEL 0 h)
set_option maxRecDepth 10000 in
set_option maxHeartbeats 4000000 in
theorem pX13_alone_ok (G : Gx) (dk : Nat) (hK : 1 ≤ dk) {g : MT} {h h0 : CT} {this : Nat} {p1 : Int32} {p2 : Int32} {p3 : Int32} {p4 : Int32} {r0 : Int32} (hf : pX13_alone g h this p1 p2 p3 p4 = some (r0, h0)) : Ctr G dk yX13_alone cX13_alone 10 (some .int) [va_rf (some this), .int p1, .int p2, .int p3, .int p4] g h (some (.int r0)) g h0 := by
  refine Ctr.ofZ (lv := [(0, va_rf (some this)), (1, .int p1), (2, .int p2), (3, .int p3), (4, .int p4)]) (by decide +kernel) (by simp [cat_i, cat_l, cat_d, cat_rf]) rfl fun X Z => ?_
  unfold pX13_alone at hf
  replace hf := tg_i hf
  obtain ⟨t0, hf⟩ := hf
  refine J_iconst Z.1 (v := 0) (by decide) dX13_alone_0 ?_
  refine J_istore Z.1 (lv2 := [(5, .int 0), (0, va_rf (some this)), (1, .int p1), (2, .int p2), (3, .int p3), (4, .int p4)]) dX13_alone_1 (zL Z (by decide)) rfl ?_
  refine J_lv [1, 2, 3, 4, 5, 0] rfl ?_
  exact pX13_alone_l3_ok Z hK t0  FUEL _ _ hf
theorem dX13_whyNotAlone_0 : decode cX13_whyNotAlone 0 = .ok (.iload_n 1, 1) := by decide +kernel
theorem dX13_whyNotAlone_1 : decode cX13_whyNotAlone 1 = .ok (.invokestatic 297, 3) := by decide +kernel
theorem dX13_whyNotAlone_4 : decode cX13_whyNotAlone 4 = .ok (.ifCond .ne 5, 3) := by decide +kernel
theorem dX13_whyNotAlone_7 : decode cX13_whyNotAlone 7 = .ok (.iconst 2, 1) := by decide +kernel
theorem dX13_whyNotAlone_8 : decode cX13_whyNotAlone 8 = .ok (.ireturn, 1) := by decide +kernel
theorem dX13_whyNotAlone_9 : decode cX13_whyNotAlone 9 = .ok (.iload_n 2, 1) := by decide +kernel
theorem dX13_whyNotAlone_10 : decode cX13_whyNotAlone 10 = .ok (.i2l, 1) := by decide +kernel
theorem dX13_whyNotAlone_11 : decode cX13_whyNotAlone 11 = .ok (.lconst 0, 1) := by decide +kernel
theorem dX13_whyNotAlone_12 : decode cX13_whyNotAlone 12 = .ok (.ldc2_w 322, 3) := by decide +kernel
theorem dX13_whyNotAlone_15 : decode cX13_whyNotAlone 15 = .ok (.invokestatic 104, 3) := by decide +kernel
theorem dX13_whyNotAlone_18 : decode cX13_whyNotAlone 18 = .ok (.ifCond .eq 19, 3) := by decide +kernel
theorem dX13_whyNotAlone_21 : decode cX13_whyNotAlone 21 = .ok (.iload_n 3, 1) := by decide +kernel
theorem dX13_whyNotAlone_22 : decode cX13_whyNotAlone 22 = .ok (.i2l, 1) := by decide +kernel
theorem dX13_whyNotAlone_23 : decode cX13_whyNotAlone 23 = .ok (.lconst 0, 1) := by decide +kernel
theorem dX13_whyNotAlone_24 : decode cX13_whyNotAlone 24 = .ok (.ldc2_w 322, 3) := by decide +kernel
theorem dX13_whyNotAlone_27 : decode cX13_whyNotAlone 27 = .ok (.invokestatic 104, 3) := by decide +kernel
theorem dX13_whyNotAlone_30 : decode cX13_whyNotAlone 30 = .ok (.ifCond .eq 7, 3) := by decide +kernel
theorem dX13_whyNotAlone_33 : decode cX13_whyNotAlone 33 = .ok (.iconst 0, 1) := by decide +kernel
theorem dX13_whyNotAlone_34 : decode cX13_whyNotAlone 34 = .ok (.goto 4, 3) := by decide +kernel
theorem dX13_whyNotAlone_37 : decode cX13_whyNotAlone 37 = .ok (.iconst 5, 1) := by decide +kernel
theorem dX13_whyNotAlone_38 : decode cX13_whyNotAlone 38 = .ok (.ireturn, 1) := by decide +kernel
def pX13_whyNotAlone (this : Nat) (p1 : Int32) (p2 : Int32) (p3 : Int32) : Int32 := if (pX13_isWordAt p1) = 0 then 2 else if (pX13_isIn (Int32.toInt64 p2) 0 64) = 0 then 5 else if (pX13_isIn (Int32.toInt64 p3) 0 64) = 0 then 5 else 0
set_option maxRecDepth 10000 in
set_option maxHeartbeats 4000000 in
theorem pX13_whyNotAlone_ok (G : Gx) (dk : Nat) (hK : 2 ≤ dk) (g : MT) (h0 : CT) (this : Nat) (p1 : Int32) (p2 : Int32) (p3 : Int32) : Ctr G dk yX13_whyNotAlone cX13_whyNotAlone 4 (some .int) [va_rf (some this), .int p1, .int p2, .int p3] g h0 (some (.int (pX13_whyNotAlone this p1 p2 p3))) g h0 := by
  obtain ⟨r0, hf⟩ : ∃ z, pX13_whyNotAlone this p1 p2 p3 = z := ⟨_, rfl⟩
  rw [hf]
  refine Ctr.ofZ (lv := [(0, va_rf (some this)), (1, .int p1), (2, .int p2), (3, .int p3)]) (by decide +kernel) (by simp [cat_i, cat_l, cat_d, cat_rf]) rfl fun X Z => ?_
  unfold pX13_whyNotAlone at hf
  refine J_iload_n Z.1 1 dX13_whyNotAlone_0 rfl rfl ?_
  refine J_callS (as := [.int p1]) (rest := []) (sy := [.int (pX13_isWordAt p1)]) Z.1 dX13_whyNotAlone_1 cw_X13_297 (pX13_isWordAt_ok G (dk - 1) (by omega) g h0 p1) (zG Z) rfl (by decide) (zF Z (by omega)) (zO Z (by omega) (by decide)) (zM _) Z.2.1 Z.2.1 rfl rfl ?_
  refine J_if_ne Z.1 9 dX13_whyNotAlone_4 (by decide) (fun c1 => ?_) (fun c1 => ?_)
  · rw [if_neg c1] at hf
    refine J_iload_n Z.1 2 dX13_whyNotAlone_9 rfl rfl ?_
    refine J_i2l Z.1 dX13_whyNotAlone_10 ?_
    refine J_lconst Z.1 (v := 0) (by decide) dX13_whyNotAlone_11 ?_
    refine J_ldc2 Z.1 q_1841 dX13_whyNotAlone_12 ?_
    refine J_callS (as := [.long (Int32.toInt64 p2), .long 0, .long 64]) (rest := []) (sy := [.int (pX13_isIn (Int32.toInt64 p2) 0 64)]) Z.1 dX13_whyNotAlone_15 cw_X13_104 (pX13_isIn_ok G (dk - 1) (by omega) g h0 (Int32.toInt64 p2) 0 64) (zG Z) rfl (by decide) (zF Z (by omega)) (zO Z (by omega) (by decide)) (zM _) Z.2.1 Z.2.1 rfl rfl ?_
    refine J_if_eq Z.1 37 dX13_whyNotAlone_18 (by decide) (fun c2 => ?_) (fun c2 => ?_)
    · rw [if_pos c2] at hf
      refine J_iconst Z.1 (v := 5) (by decide) dX13_whyNotAlone_37 ?_
      cases hf
      exact J_iret Z.1 Z.2.2.2.2.2 dX13_whyNotAlone_38
    · rw [if_neg c2] at hf
      refine J_iload_n Z.1 3 dX13_whyNotAlone_21 rfl rfl ?_
      refine J_i2l Z.1 dX13_whyNotAlone_22 ?_
      refine J_lconst Z.1 (v := 0) (by decide) dX13_whyNotAlone_23 ?_
      refine J_ldc2 Z.1 q_1841 dX13_whyNotAlone_24 ?_
      refine J_callS (as := [.long (Int32.toInt64 p3), .long 0, .long 64]) (rest := []) (sy := [.int (pX13_isIn (Int32.toInt64 p3) 0 64)]) Z.1 dX13_whyNotAlone_27 cw_X13_104 (pX13_isIn_ok G (dk - 1) (by omega) g h0 (Int32.toInt64 p3) 0 64) (zG Z) rfl (by decide) (zF Z (by omega)) (zO Z (by omega) (by decide)) (zM _) Z.2.1 Z.2.1 rfl rfl ?_
      refine J_if_eq Z.1 37 dX13_whyNotAlone_30 (by decide) (fun c3 => ?_) (fun c3 => ?_)
      · rw [if_pos c3] at hf
        refine J_iconst Z.1 (v := 5) (by decide) dX13_whyNotAlone_37 ?_
        cases hf
        exact J_iret Z.1 Z.2.2.2.2.2 dX13_whyNotAlone_38
      · rw [if_neg c3] at hf
        refine J_iconst Z.1 (v := 0) (by decide) dX13_whyNotAlone_33 ?_
        refine J_goto Z.1 38 dX13_whyNotAlone_34 (by decide) ?_
        cases hf
        exact J_iret Z.1 Z.2.2.2.2.2 dX13_whyNotAlone_38
  · rw [if_pos c1] at hf
    refine J_iconst Z.1 (v := 2) (by decide) dX13_whyNotAlone_7 ?_
    cases hf
    exact J_iret Z.1 Z.2.2.2.2.2 dX13_whyNotAlone_8
theorem dX13_stalls_0 : decode cX13_stalls 0 = .ok (.aload_n 0, 1) := by decide +kernel
theorem dX13_stalls_1 : decode cX13_stalls 1 = .ok (.iconst 0, 1) := by decide +kernel
theorem dX13_stalls_2 : decode cX13_stalls 2 = .ok (.putfield 71, 3) := by decide +kernel
theorem dX13_stalls_5 : decode cX13_stalls 5 = .ok (.aload_n 0, 1) := by decide +kernel
theorem dX13_stalls_6 : decode cX13_stalls 6 = .ok (.aload_n 0, 1) := by decide +kernel
theorem dX13_stalls_7 : decode cX13_stalls 7 = .ok (.iload_n 1, 1) := by decide +kernel
theorem dX13_stalls_8 : decode cX13_stalls 8 = .ok (.iload_n 2, 1) := by decide +kernel
theorem dX13_stalls_9 : decode cX13_stalls 9 = .ok (.iload_n 3, 1) := by decide +kernel
theorem dX13_stalls_10 : decode cX13_stalls 10 = .ok (.invokevirtual 568, 3) := by decide +kernel
theorem dX13_stalls_13 : decode cX13_stalls 13 = .ok (.putfield 74, 3) := by decide +kernel
theorem dX13_stalls_16 : decode cX13_stalls 16 = .ok (.aload_n 0, 1) := by decide +kernel
theorem dX13_stalls_17 : decode cX13_stalls 17 = .ok (.getfield 74, 3) := by decide +kernel
theorem dX13_stalls_20 : decode cX13_stalls 20 = .ok (.ifCond .le 7, 3) := by decide +kernel
theorem dX13_stalls_23 : decode cX13_stalls 23 = .ok (.iconst (-1), 1) := by decide +kernel
theorem dX13_stalls_24 : decode cX13_stalls 24 = .ok (.goto 16, 3) := by decide +kernel
theorem dX13_stalls_27 : decode cX13_stalls 27 = .ok (.aload_n 0, 1) := by decide +kernel
theorem dX13_stalls_28 : decode cX13_stalls 28 = .ok (.iload_n 1, 1) := by decide +kernel
theorem dX13_stalls_29 : decode cX13_stalls 29 = .ok (.iload_n 2, 1) := by decide +kernel
theorem dX13_stalls_30 : decode cX13_stalls 30 = .ok (.iload_n 3, 1) := by decide +kernel
theorem dX13_stalls_31 : decode cX13_stalls 31 = .ok (.aload_n 0, 1) := by decide +kernel
theorem dX13_stalls_32 : decode cX13_stalls 32 = .ok (.getfield 31, 3) := by decide +kernel
theorem dX13_stalls_35 : decode cX13_stalls 35 = .ok (.iconst 1, 1) := by decide +kernel
theorem dX13_stalls_36 : decode cX13_stalls 36 = .ok (.iaload, 1) := by decide +kernel
theorem dX13_stalls_37 : decode cX13_stalls 37 = .ok (.invokevirtual 571, 3) := by decide +kernel
theorem dX13_stalls_40 : decode cX13_stalls 40 = .ok (.ireturn, 1) := by decide +kernel
def pX13_stalls (g : MT) (h : CT) (this : Nat) (p1 : Int32) (p2 : Int32) (p3 : Int32) : Option ((Int32) × CT) := tg g this 12 (lt (sI h this 1 0) fun h1 => (lt (sI h1 this 0 (pX13_whyNotAlone this p1 p2 p3)) fun h2 => (if (hI h2 this 0) ≤ 0 then lt (hR h2 this 19) fun r4 => (nn r4 fun a4 => (tg g a4 20 (ix (gL g a4) 1 (bd2 (pX13_alone g h2 this p1 p2 p3 (hI h2 a4 (Int32.toNatClampNeg 1))) fun x9 h7 => (some (x9, h7)))))) else some ((-1), h2))))
set_option maxRecDepth 10000 in
set_option maxHeartbeats 4000000 in
theorem pX13_stalls_ok (G : Gx) (dk : Nat) (hK : 3 ≤ dk) {g : MT} {h h0 : CT} {this : Nat} {p1 : Int32} {p2 : Int32} {p3 : Int32} {r0 : Int32} (hf : pX13_stalls g h this p1 p2 p3 = some (r0, h0)) : Ctr G dk yX13_stalls cX13_stalls 4 (some .int) [va_rf (some this), .int p1, .int p2, .int p3] g h (some (.int r0)) g h0 := by
  refine Ctr.ofZ (lv := [(0, va_rf (some this)), (1, .int p1), (2, .int p2), (3, .int p3)]) (by decide +kernel) (by simp [cat_i, cat_l, cat_d, cat_rf]) rfl fun X Z => ?_
  unfold pX13_stalls at hf
  replace hf := tg_i hf
  obtain ⟨t0, hf⟩ := hf
  refine J_aload_n Z.1 0 dX13_stalls_0 rfl rfl ?_
  refine J_iconst Z.1 (v := 0) (by decide) dX13_stalls_1 ?_
  refine J_putI Z.1 dX13_stalls_2 fl_X13_71 (fun q => by cases q) t0 rfl rfl (congrArg Value.int (hI_s _ _ _ _)) ?_
  refine J_th (fun h1 eh1 => ?_)
  replace hf := lt_i hf h1 eh1
  refine J_aload_n Z.1 0 dX13_stalls_5 rfl rfl ?_
  refine J_aload_n Z.1 0 dX13_stalls_6 rfl rfl ?_
  refine J_iload_n Z.1 1 dX13_stalls_7 rfl rfl ?_
  refine J_iload_n Z.1 2 dX13_stalls_8 rfl rfl ?_
  refine J_iload_n Z.1 3 dX13_stalls_9 rfl rfl ?_
  refine J_callV (ci := 11) (as := [.int p1, .int p2, .int p3]) (rest := [va_rf (some this)]) (sy := [.int (pX13_whyNotAlone this p1 p2 p3), va_rf (some this)]) Z.1 dX13_stalls_10 cw_X13_568 (pX13_whyNotAlone_ok G (dk - 1) (by omega) g h1 this p1 p2 p3) rfl rfl t0 (zG Z) rfl (by simp [cat_i, cat_l, cat_d, cat_rf]) (zF Z (by omega)) (zO Z (by omega) (by decide)) (zM _) Z.2.1 Z.2.1 rfl rfl ?_
  refine J_putI Z.1 dX13_stalls_13 fl_X13_74 (fun q => by cases q) t0 rfl rfl (congrArg Value.int (hI_s _ _ _ _)) ?_
  refine J_th (fun h2 eh2 => ?_)
  replace hf := lt_i hf h2 eh2
  refine J_aload_n Z.1 0 dX13_stalls_16 rfl rfl ?_
  refine J_get (v := .int (hI h2 this 0)) Z.1 dX13_stalls_17 fl_X13_74 t0 rfl ?_
  refine J_if_le Z.1 27 dX13_stalls_20 (by decide) (fun c3 => ?_) (fun c3 => ?_)
  · rw [if_pos c3] at hf
    refine J_aload_n Z.1 0 dX13_stalls_27 rfl rfl ?_
    refine J_iload_n Z.1 1 dX13_stalls_28 rfl rfl ?_
    refine J_iload_n Z.1 2 dX13_stalls_29 rfl rfl ?_
    refine J_iload_n Z.1 3 dX13_stalls_30 rfl rfl ?_
    refine J_aload_n Z.1 0 dX13_stalls_31 rfl rfl ?_
    refine J_get (v := va_rf (hR h2 this 19)) Z.1 dX13_stalls_32 fl_X13_31 t0 rfl ?_
    refine J_tr (fun r4 er4 => ?_)
    replace hf := lt_i hf r4 er4
    refine J_iconst Z.1 (v := 1) (by decide) dX13_stalls_35 ?_
    replace hf := nn_i hf
    obtain ⟨a4, rfl, hf⟩ := hf
    replace hf := tg_i hf
    obtain ⟨t5, hf⟩ := hf
    replace hf := ix_i hf
    obtain ⟨i6, hf⟩ := hf
    refine J_iaload Z.1 dX13_stalls_36 t5 i6 ?_
    replace hf := bd2_i hf
    obtain ⟨x9, h7, q8, hf⟩ := hf
    refine J_callV (ci := 11) (as := [.int p1, .int p2, .int p3, .int (hI h2 a4 (Int32.toNatClampNeg 1))]) (rest := []) (sy := [.int x9]) Z.1 dX13_stalls_37 cw_X13_571 (pX13_alone_ok G (dk - 1) (by omega) q8) rfl rfl t0 (zG Z) rfl (by decide) (zF Z (by omega)) (zO Z (by omega) (by decide)) (zM _) Z.2.1 Z.2.1 rfl rfl ?_
    cases hf
    exact J_iret Z.1 Z.2.2.2.2.2 dX13_stalls_40
  · rw [if_neg c3] at hf
    refine J_iconst Z.1 (v := (-1)) (by decide) dX13_stalls_23 ?_
    refine J_goto Z.1 40 dX13_stalls_24 (by decide) ?_
    cases hf
    exact J_iret Z.1 Z.2.2.2.2.2 dX13_stalls_40
theorem dX13_banksFor_0 : decode cX13_banksFor 0 = .ok (.aload_n 0, 1) := by decide +kernel
theorem dX13_banksFor_1 : decode cX13_banksFor 1 = .ok (.iconst 0, 1) := by decide +kernel
theorem dX13_banksFor_2 : decode cX13_banksFor 2 = .ok (.putfield 71, 3) := by decide +kernel
theorem dX13_banksFor_5 : decode cX13_banksFor 5 = .ok (.aload_n 0, 1) := by decide +kernel
theorem dX13_banksFor_6 : decode cX13_banksFor 6 = .ok (.aload_n 0, 1) := by decide +kernel
theorem dX13_banksFor_7 : decode cX13_banksFor 7 = .ok (.iload_n 1, 1) := by decide +kernel
theorem dX13_banksFor_8 : decode cX13_banksFor 8 = .ok (.iload_n 2, 1) := by decide +kernel
theorem dX13_banksFor_9 : decode cX13_banksFor 9 = .ok (.iload_n 3, 1) := by decide +kernel
theorem dX13_banksFor_10 : decode cX13_banksFor 10 = .ok (.invokevirtual 568, 3) := by decide +kernel
theorem dX13_banksFor_13 : decode cX13_banksFor 13 = .ok (.putfield 74, 3) := by decide +kernel
theorem dX13_banksFor_16 : decode cX13_banksFor 16 = .ok (.aload_n 0, 1) := by decide +kernel
theorem dX13_banksFor_17 : decode cX13_banksFor 17 = .ok (.getfield 74, 3) := by decide +kernel
theorem dX13_banksFor_20 : decode cX13_banksFor 20 = .ok (.ifCond .le 5, 3) := by decide +kernel
theorem dX13_banksFor_23 : decode cX13_banksFor 23 = .ok (.iconst (-1), 1) := by decide +kernel
theorem dX13_banksFor_24 : decode cX13_banksFor 24 = .ok (.ireturn, 1) := by decide +kernel
theorem dX13_banksFor_25 : decode cX13_banksFor 25 = .ok (.iconst 1, 1) := by decide +kernel
theorem dX13_banksFor_26 : decode cX13_banksFor 26 = .ok (.istore 4, 2) := by decide +kernel
theorem dX13_banksFor_28 : decode cX13_banksFor 28 = .ok (.iload 4, 2) := by decide +kernel
theorem dX13_banksFor_30 : decode cX13_banksFor 30 = .ok (.bipush 16, 2) := by decide +kernel
theorem dX13_banksFor_32 : decode cX13_banksFor 32 = .ok (.if_icmp .gt 24, 3) := by decide +kernel
theorem dX13_banksFor_35 : decode cX13_banksFor 35 = .ok (.aload_n 0, 1) := by decide +kernel
theorem dX13_banksFor_36 : decode cX13_banksFor 36 = .ok (.iload_n 1, 1) := by decide +kernel
theorem dX13_banksFor_37 : decode cX13_banksFor 37 = .ok (.iload_n 2, 1) := by decide +kernel
theorem dX13_banksFor_38 : decode cX13_banksFor 38 = .ok (.iload_n 3, 1) := by decide +kernel
theorem dX13_banksFor_39 : decode cX13_banksFor 39 = .ok (.iload 4, 2) := by decide +kernel
theorem dX13_banksFor_41 : decode cX13_banksFor 41 = .ok (.invokevirtual 571, 3) := by decide +kernel
theorem dX13_banksFor_44 : decode cX13_banksFor 44 = .ok (.ifCond .ne 6, 3) := by decide +kernel
theorem dX13_banksFor_47 : decode cX13_banksFor 47 = .ok (.iload 4, 2) := by decide +kernel
theorem dX13_banksFor_49 : decode cX13_banksFor 49 = .ok (.ireturn, 1) := by decide +kernel
theorem dX13_banksFor_50 : decode cX13_banksFor 50 = .ok (.iinc 4 1, 3) := by decide +kernel
theorem dX13_banksFor_53 : decode cX13_banksFor 53 = .ok (.goto (-25), 3) := by decide +kernel
theorem dX13_banksFor_56 : decode cX13_banksFor 56 = .ok (.aload_n 0, 1) := by decide +kernel
theorem dX13_banksFor_57 : decode cX13_banksFor 57 = .ok (.bipush 8, 2) := by decide +kernel
theorem dX13_banksFor_59 : decode cX13_banksFor 59 = .ok (.invokevirtual 268, 3) := by decide +kernel
theorem dX13_banksFor_62 : decode cX13_banksFor 62 = .ok (.ireturn, 1) := by decide +kernel
def pX13_banksFor_b28 (g : MT) (this : Nat) (p1 : Int32) (p2 : Int32) (p3 : Int32) (k28 : Int32 → CT → Option ((Int32) × CT)) (l4 : Int32) (h : CT) : Option ((Int32) × CT) := if 16 < l4 then bd2 (pX13_refuse g h this 8) fun x4 h2 => (some (x4, h2)) else bd2 (pX13_alone g h this p1 p2 p3 l4) fun x7 h5 => (if x7 = 0 then some (l4, h5) else lt (l4 + 1) fun x9 => (k28 x9 h5))
set_option maxRecDepth 10000 in
set_option maxHeartbeats 4000000 in
theorem pX13_banksFor_b28_ok {X : Cx} {G : Gx} {dk : Nat} {g : MT} {r0 : Int32} {h0 : CT} {this : Nat} {p1 : Int32} {p2 : Int32} {p3 : Int32} {k28 : Int32 → CT → Option ((Int32) × CT)} (Z : Zx X G cX13_banksFor RX13 5 dk (some .int) (some (.int r0)) g h0) (hK : 3 ≤ dk) (t0 : gT g this = 12) (hk28 : ∀ (l4 : Int32) (h : CT), k28 l4 h = some (r0, h0) → J X g h 28 [(0, va_rf (some this)), (1, .int p1), (2, .int p2), (3, .int p3), (4, .int l4)] []) (l4 : Int32) (h : CT) (hf : pX13_banksFor_b28 g this p1 p2 p3 k28 l4 h = some (r0, h0)) : J X g h 28 [(0, va_rf (some this)), (1, .int p1), (2, .int p2), (3, .int p3), (4, .int l4)] [] := by
  unfold pX13_banksFor_b28 at hf
  refine J_iload Z.1 4 dX13_banksFor_28 rfl ?_
  refine J_bipush Z.1 (v := 16) (by decide) dX13_banksFor_30 ?_
  refine J_icmp_gt Z.1 56 dX13_banksFor_32 (by decide) (fun c1 => ?_) (fun c1 => ?_)
  · rw [if_pos c1] at hf
    refine J_aload_n Z.1 0 dX13_banksFor_56 rfl rfl ?_
    refine J_bipush Z.1 (v := 8) (by decide) dX13_banksFor_57 ?_
    replace hf := bd2_i hf
    obtain ⟨x4, h2, q3, hf⟩ := hf
    refine J_callV (ci := 11) (as := [.int 8]) (rest := []) (sy := [.int x4]) Z.1 dX13_banksFor_59 cw_X13_268 (pX13_refuse_ok G (dk - 1) (by omega) q3) rfl rfl t0 (zG Z) rfl (by decide) (zF Z (by omega)) (zO Z (by omega) (by decide)) (zM _) Z.2.1 Z.2.1 rfl rfl ?_
    cases hf
    exact J_iret Z.1 Z.2.2.2.2.2 dX13_banksFor_62
  · rw [if_neg c1] at hf
    refine J_aload_n Z.1 0 dX13_banksFor_35 rfl rfl ?_
    refine J_iload_n Z.1 1 dX13_banksFor_36 rfl rfl ?_
    refine J_iload_n Z.1 2 dX13_banksFor_37 rfl rfl ?_
    refine J_iload_n Z.1 3 dX13_banksFor_38 rfl rfl ?_
    refine J_iload Z.1 4 dX13_banksFor_39 rfl ?_
    replace hf := bd2_i hf
    obtain ⟨x7, h5, q6, hf⟩ := hf
    refine J_callV (ci := 11) (as := [.int p1, .int p2, .int p3, .int l4]) (rest := []) (sy := [.int x7]) Z.1 dX13_banksFor_41 cw_X13_571 (pX13_alone_ok G (dk - 1) (by omega) q6) rfl rfl t0 (zG Z) rfl (by decide) (zF Z (by omega)) (zO Z (by omega) (by decide)) (zM _) Z.2.1 Z.2.1 rfl rfl ?_
    refine J_if_ne Z.1 50 dX13_banksFor_44 (by decide) (fun c8 => ?_) (fun c8 => ?_)
    · rw [if_neg c8] at hf
      refine J_iinc Z.1 (v := 1) (lv2 := [(4, .int (l4 + 1)), (0, va_rf (some this)), (1, .int p1), (2, .int p2), (3, .int p3)]) 4 dX13_banksFor_50 rfl (by decide) (zL Z (by decide)) rfl ?_
      obtain ⟨x9, ex9⟩ : ∃ z, z = (l4 + 1) := ⟨_, rfl⟩
      replace hf := lt_i hf x9 ex9
      rw [← ex9]
      refine J_goto Z.1 28 dX13_banksFor_53 (by decide) ?_
      refine J_lv [1, 2, 3, 4, 0] rfl ?_
      exact hk28 _ _ hf
    · rw [if_pos c8] at hf
      refine J_iload Z.1 4 dX13_banksFor_47 rfl ?_
      cases hf
      exact J_iret Z.1 Z.2.2.2.2.2 dX13_banksFor_49
def pX13_banksFor_l28 (g : MT) (this : Nat) (p1 : Int32) (p2 : Int32) (p3 : Int32) : Nat → Int32 → CT → Option ((Int32) × CT)
  | 0, _, _ => none
  | n + 1, l4, h => pX13_banksFor_b28 g this p1 p2 p3 (pX13_banksFor_l28 g this p1 p2 p3 n) l4 h
theorem pX13_banksFor_l28_ok {X : Cx} {G : Gx} {dk : Nat} {g : MT} {r0 : Int32} {h0 : CT} {this : Nat} {p1 : Int32} {p2 : Int32} {p3 : Int32} (Z : Zx X G cX13_banksFor RX13 5 dk (some .int) (some (.int r0)) g h0) (hK : 3 ≤ dk) (t0 : gT g this = 12) : ∀ (n : Nat) (l4 : Int32) (h : CT), pX13_banksFor_l28 g this p1 p2 p3 n l4 h = some (r0, h0) → J X g h 28 [(0, va_rf (some this)), (1, .int p1), (2, .int p2), (3, .int p3), (4, .int l4)] [] := by
  intro n
  induction n with
  | zero => intro l4 h hf; cases hf
  | succ n ih => intro l4 h hf; exact pX13_banksFor_b28_ok Z hK t0 ih l4 h hf
def pX13_banksFor (g : MT) (h : CT) (this : Nat) (p1 : Int32) (p2 : Int32) (p3 : Int32) : Option ((Int32) × CT) := tg g this 12 (lt (sI h this 1 0) fun h1 => (lt (sI h1 this 0 (pX13_whyNotAlone this p1 p2 p3)) fun h2 => (if (hI h2 this 0) ≤ 0 then pX13_banksFor_l28 g this p1 p2 p3  FUEL 1 h2 else some ((-1), h2))))
set_option maxRecDepth 10000 in
set_option maxHeartbeats 4000000 in
theorem pX13_banksFor_ok (G : Gx) (dk : Nat) (hK : 3 ≤ dk) {g : MT} {h h0 : CT} {this : Nat} {p1 : Int32} {p2 : Int32} {p3 : Int32} {r0 : Int32} (hf : pX13_banksFor g h this p1 p2 p3 = some (r0, h0)) : Ctr G dk yX13_banksFor cX13_banksFor 5 (some .int) [va_rf (some this), .int p1, .int p2, .int p3] g h (some (.int r0)) g h0 := by
  refine Ctr.ofZ (lv := [(0, va_rf (some this)), (1, .int p1), (2, .int p2), (3, .int p3)]) (by decide +kernel) (by simp [cat_i, cat_l, cat_d, cat_rf]) rfl fun X Z => ?_
  unfold pX13_banksFor at hf
  replace hf := tg_i hf
  obtain ⟨t0, hf⟩ := hf
  refine J_aload_n Z.1 0 dX13_banksFor_0 rfl rfl ?_
  refine J_iconst Z.1 (v := 0) (by decide) dX13_banksFor_1 ?_
  refine J_putI Z.1 dX13_banksFor_2 fl_X13_71 (fun q => by cases q) t0 rfl rfl (congrArg Value.int (hI_s _ _ _ _)) ?_
  refine J_th (fun h1 eh1 => ?_)
  replace hf := lt_i hf h1 eh1
  refine J_aload_n Z.1 0 dX13_banksFor_5 rfl rfl ?_
  refine J_aload_n Z.1 0 dX13_banksFor_6 rfl rfl ?_
  refine J_iload_n Z.1 1 dX13_banksFor_7 rfl rfl ?_
  refine J_iload_n Z.1 2 dX13_banksFor_8 rfl rfl ?_
  refine J_iload_n Z.1 3 dX13_banksFor_9 rfl rfl ?_
  refine J_callV (ci := 11) (as := [.int p1, .int p2, .int p3]) (rest := [va_rf (some this)]) (sy := [.int (pX13_whyNotAlone this p1 p2 p3), va_rf (some this)]) Z.1 dX13_banksFor_10 cw_X13_568 (pX13_whyNotAlone_ok G (dk - 1) (by omega) g h1 this p1 p2 p3) rfl rfl t0 (zG Z) rfl (by simp [cat_i, cat_l, cat_d, cat_rf]) (zF Z (by omega)) (zO Z (by omega) (by decide)) (zM _) Z.2.1 Z.2.1 rfl rfl ?_
  refine J_putI Z.1 dX13_banksFor_13 fl_X13_74 (fun q => by cases q) t0 rfl rfl (congrArg Value.int (hI_s _ _ _ _)) ?_
  refine J_th (fun h2 eh2 => ?_)
  replace hf := lt_i hf h2 eh2
  refine J_aload_n Z.1 0 dX13_banksFor_16 rfl rfl ?_
  refine J_get (v := .int (hI h2 this 0)) Z.1 dX13_banksFor_17 fl_X13_74 t0 rfl ?_
  refine J_if_le Z.1 25 dX13_banksFor_20 (by decide) (fun c3 => ?_) (fun c3 => ?_)
  · rw [if_pos c3] at hf
    refine J_iconst Z.1 (v := 1) (by decide) dX13_banksFor_25 ?_
    refine J_istore Z.1 (lv2 := [(4, .int 1), (0, va_rf (some this)), (1, .int p1), (2, .int p2), (3, .int p3)]) dX13_banksFor_26 (zL Z (by decide)) rfl ?_
    refine J_lv [1, 2, 3, 4, 0] rfl ?_
    exact pX13_banksFor_l28_ok Z hK t0  FUEL _ _ hf
  · rw [if_neg c3] at hf
    refine J_iconst Z.1 (v := (-1)) (by decide) dX13_banksFor_23 ?_
    cases hf
    exact J_iret Z.1 Z.2.2.2.2.2 dX13_banksFor_24
theorem dX13_worst_0 : decode cX13_worst 0 = .ok (.aload_n 0, 1) := by decide +kernel
theorem dX13_worst_1 : decode cX13_worst 1 = .ok (.iconst 0, 1) := by decide +kernel
theorem dX13_worst_2 : decode cX13_worst 2 = .ok (.putfield 71, 3) := by decide +kernel
theorem dX13_worst_5 : decode cX13_worst 5 = .ok (.aload_n 0, 1) := by decide +kernel
theorem dX13_worst_6 : decode cX13_worst 6 = .ok (.aload_n 0, 1) := by decide +kernel
theorem dX13_worst_7 : decode cX13_worst 7 = .ok (.iload_n 1, 1) := by decide +kernel
theorem dX13_worst_8 : decode cX13_worst 8 = .ok (.iconst 0, 1) := by decide +kernel
theorem dX13_worst_9 : decode cX13_worst 9 = .ok (.iload_n 2, 1) := by decide +kernel
theorem dX13_worst_10 : decode cX13_worst 10 = .ok (.invokevirtual 568, 3) := by decide +kernel
theorem dX13_worst_13 : decode cX13_worst 13 = .ok (.putfield 74, 3) := by decide +kernel
theorem dX13_worst_16 : decode cX13_worst 16 = .ok (.aload_n 0, 1) := by decide +kernel
theorem dX13_worst_17 : decode cX13_worst 17 = .ok (.getfield 74, 3) := by decide +kernel
theorem dX13_worst_20 : decode cX13_worst 20 = .ok (.ifCond .le 5, 3) := by decide +kernel
theorem dX13_worst_23 : decode cX13_worst 23 = .ok (.iconst (-1), 1) := by decide +kernel
theorem dX13_worst_24 : decode cX13_worst 24 = .ok (.ireturn, 1) := by decide +kernel
theorem dX13_worst_25 : decode cX13_worst 25 = .ok (.iconst 1, 1) := by decide +kernel
theorem dX13_worst_26 : decode cX13_worst 26 = .ok (.istore_n 3, 1) := by decide +kernel
theorem dX13_worst_27 : decode cX13_worst 27 = .ok (.iconst 2, 1) := by decide +kernel
theorem dX13_worst_28 : decode cX13_worst 28 = .ok (.istore 4, 2) := by decide +kernel
theorem dX13_worst_30 : decode cX13_worst 30 = .ok (.iload 4, 2) := by decide +kernel
theorem dX13_worst_32 : decode cX13_worst 32 = .ok (.bipush 16, 2) := by decide +kernel
theorem dX13_worst_34 : decode cX13_worst 34 = .ok (.if_icmp .gt 42, 3) := by decide +kernel
theorem dX13_worst_37 : decode cX13_worst 37 = .ok (.aload_n 0, 1) := by decide +kernel
theorem dX13_worst_38 : decode cX13_worst 38 = .ok (.iload_n 1, 1) := by decide +kernel
theorem dX13_worst_39 : decode cX13_worst 39 = .ok (.iload 4, 2) := by decide +kernel
theorem dX13_worst_41 : decode cX13_worst 41 = .ok (.iload_n 2, 1) := by decide +kernel
theorem dX13_worst_42 : decode cX13_worst 42 = .ok (.aload_n 0, 1) := by decide +kernel
theorem dX13_worst_43 : decode cX13_worst 43 = .ok (.getfield 31, 3) := by decide +kernel
theorem dX13_worst_46 : decode cX13_worst 46 = .ok (.iconst 1, 1) := by decide +kernel
theorem dX13_worst_47 : decode cX13_worst 47 = .ok (.iaload, 1) := by decide +kernel
theorem dX13_worst_48 : decode cX13_worst 48 = .ok (.invokevirtual 571, 3) := by decide +kernel
theorem dX13_worst_51 : decode cX13_worst 51 = .ok (.aload_n 0, 1) := by decide +kernel
theorem dX13_worst_52 : decode cX13_worst 52 = .ok (.iload_n 1, 1) := by decide +kernel
theorem dX13_worst_53 : decode cX13_worst 53 = .ok (.iload_n 3, 1) := by decide +kernel
theorem dX13_worst_54 : decode cX13_worst 54 = .ok (.iload_n 2, 1) := by decide +kernel
theorem dX13_worst_55 : decode cX13_worst 55 = .ok (.aload_n 0, 1) := by decide +kernel
theorem dX13_worst_56 : decode cX13_worst 56 = .ok (.getfield 31, 3) := by decide +kernel
theorem dX13_worst_59 : decode cX13_worst 59 = .ok (.iconst 1, 1) := by decide +kernel
theorem dX13_worst_60 : decode cX13_worst 60 = .ok (.iaload, 1) := by decide +kernel
theorem dX13_worst_61 : decode cX13_worst 61 = .ok (.invokevirtual 571, 3) := by decide +kernel
theorem dX13_worst_64 : decode cX13_worst 64 = .ok (.if_icmp .le 6, 3) := by decide +kernel
theorem dX13_worst_67 : decode cX13_worst 67 = .ok (.iload 4, 2) := by decide +kernel
theorem dX13_worst_69 : decode cX13_worst 69 = .ok (.istore_n 3, 1) := by decide +kernel
theorem dX13_worst_70 : decode cX13_worst 70 = .ok (.iinc 4 1, 3) := by decide +kernel
theorem dX13_worst_73 : decode cX13_worst 73 = .ok (.goto (-43), 3) := by decide +kernel
theorem dX13_worst_76 : decode cX13_worst 76 = .ok (.iload_n 3, 1) := by decide +kernel
theorem dX13_worst_77 : decode cX13_worst 77 = .ok (.ireturn, 1) := by decide +kernel
def pX13_worst_b70 (g : MT) (this : Nat) (p1 : Int32) (p2 : Int32) (k30 : Int32 → Int32 → CT → Option ((Int32) × CT)) (l3 : Int32) (l4 : Int32) (h : CT) : Option ((Int32) × CT) := lt (l4 + 1) fun x1 => (k30 l3 x1 h)
set_option maxRecDepth 10000 in
set_option maxHeartbeats 4000000 in
theorem pX13_worst_b70_ok {X : Cx} {G : Gx} {dk : Nat} {g : MT} {r0 : Int32} {h0 : CT} {this : Nat} {p1 : Int32} {p2 : Int32} {k30 : Int32 → Int32 → CT → Option ((Int32) × CT)} (Z : Zx X G cX13_worst RX13 5 dk (some .int) (some (.int r0)) g h0) (hK : 3 ≤ dk) (t0 : gT g this = 12) (hk30 : ∀ (l3 : Int32) (l4 : Int32) (h : CT), k30 l3 l4 h = some (r0, h0) → J X g h 30 [(0, va_rf (some this)), (1, .int p1), (2, .int p2), (3, .int l3), (4, .int l4)] []) (l3 : Int32) (l4 : Int32) (h : CT) (hf : pX13_worst_b70 g this p1 p2 k30 l3 l4 h = some (r0, h0)) : J X g h 70 [(0, va_rf (some this)), (1, .int p1), (2, .int p2), (3, .int l3), (4, .int l4)] [] := by
  unfold pX13_worst_b70 at hf
  refine J_iinc Z.1 (v := 1) (lv2 := [(4, .int (l4 + 1)), (0, va_rf (some this)), (1, .int p1), (2, .int p2), (3, .int l3)]) 4 dX13_worst_70 rfl (by decide) (zL Z (by decide)) rfl ?_
  obtain ⟨x1, ex1⟩ : ∃ z, z = (l4 + 1) := ⟨_, rfl⟩
  replace hf := lt_i hf x1 ex1
  rw [← ex1]
  refine J_goto Z.1 30 dX13_worst_73 (by decide) ?_
  refine J_lv [1, 2, 3, 4, 0] rfl ?_
  exact hk30 _ _ _ hf
def pX13_worst_b30 (g : MT) (this : Nat) (p1 : Int32) (p2 : Int32) (k30 : Int32 → Int32 → CT → Option ((Int32) × CT)) (l3 : Int32) (l4 : Int32) (h : CT) : Option ((Int32) × CT) := if 16 < l4 then some (l3, h) else lt (hR h this 19) fun r2 => (nn r2 fun a2 => (tg g a2 20 (ix (gL g a2) 1 (bd2 (pX13_alone g h this p1 l4 p2 (hI h a2 (Int32.toNatClampNeg 1))) fun x7 h5 => (lt (hR h5 this 19) fun r8 => (nn r8 fun a8 => (tg g a8 20 (ix (gL g a8) 1 (bd2 (pX13_alone g h5 this p1 l3 p2 (hI h5 a8 (Int32.toNatClampNeg 1))) fun x13 h11 => (if x7 ≤ x13 then pX13_worst_b70 g this p1 p2 k30 l3 l4 h11 else pX13_worst_b70 g this p1 p2 k30 l4 l4 h11))))))))))
set_option maxRecDepth 10000 in
set_option maxHeartbeats 4000000 in
theorem pX13_worst_b30_ok {X : Cx} {G : Gx} {dk : Nat} {g : MT} {r0 : Int32} {h0 : CT} {this : Nat} {p1 : Int32} {p2 : Int32} {k30 : Int32 → Int32 → CT → Option ((Int32) × CT)} (Z : Zx X G cX13_worst RX13 5 dk (some .int) (some (.int r0)) g h0) (hK : 3 ≤ dk) (t0 : gT g this = 12) (hk30 : ∀ (l3 : Int32) (l4 : Int32) (h : CT), k30 l3 l4 h = some (r0, h0) → J X g h 30 [(0, va_rf (some this)), (1, .int p1), (2, .int p2), (3, .int l3), (4, .int l4)] []) (l3 : Int32) (l4 : Int32) (h : CT) (hf : pX13_worst_b30 g this p1 p2 k30 l3 l4 h = some (r0, h0)) : J X g h 30 [(0, va_rf (some this)), (1, .int p1), (2, .int p2), (3, .int l3), (4, .int l4)] [] := by
  unfold pX13_worst_b30 at hf
  refine J_iload Z.1 4 dX13_worst_30 rfl ?_
  refine J_bipush Z.1 (v := 16) (by decide) dX13_worst_32 ?_
  refine J_icmp_gt Z.1 76 dX13_worst_34 (by decide) (fun c1 => ?_) (fun c1 => ?_)
  · rw [if_pos c1] at hf
    refine J_iload_n Z.1 3 dX13_worst_76 rfl rfl ?_
    cases hf
    exact J_iret Z.1 Z.2.2.2.2.2 dX13_worst_77
  · rw [if_neg c1] at hf
    refine J_aload_n Z.1 0 dX13_worst_37 rfl rfl ?_
    refine J_iload_n Z.1 1 dX13_worst_38 rfl rfl ?_
    refine J_iload Z.1 4 dX13_worst_39 rfl ?_
    refine J_iload_n Z.1 2 dX13_worst_41 rfl rfl ?_
    refine J_aload_n Z.1 0 dX13_worst_42 rfl rfl ?_
    refine J_get (v := va_rf (hR h this 19)) Z.1 dX13_worst_43 fl_X13_31 t0 rfl ?_
    refine J_tr (fun r2 er2 => ?_)
    replace hf := lt_i hf r2 er2
    refine J_iconst Z.1 (v := 1) (by decide) dX13_worst_46 ?_
    replace hf := nn_i hf
    obtain ⟨a2, rfl, hf⟩ := hf
    replace hf := tg_i hf
    obtain ⟨t3, hf⟩ := hf
    replace hf := ix_i hf
    obtain ⟨i4, hf⟩ := hf
    refine J_iaload Z.1 dX13_worst_47 t3 i4 ?_
    replace hf := bd2_i hf
    obtain ⟨x7, h5, q6, hf⟩ := hf
    refine J_callV (ci := 11) (as := [.int p1, .int l4, .int p2, .int (hI h a2 (Int32.toNatClampNeg 1))]) (rest := []) (sy := [.int x7]) Z.1 dX13_worst_48 cw_X13_571 (pX13_alone_ok G (dk - 1) (by omega) q6) rfl rfl t0 (zG Z) rfl (by decide) (zF Z (by omega)) (zO Z (by omega) (by decide)) (zM _) Z.2.1 Z.2.1 rfl rfl ?_
    refine J_aload_n Z.1 0 dX13_worst_51 rfl rfl ?_
    refine J_iload_n Z.1 1 dX13_worst_52 rfl rfl ?_
    refine J_iload_n Z.1 3 dX13_worst_53 rfl rfl ?_
    refine J_iload_n Z.1 2 dX13_worst_54 rfl rfl ?_
    refine J_aload_n Z.1 0 dX13_worst_55 rfl rfl ?_
    refine J_get (v := va_rf (hR h5 this 19)) Z.1 dX13_worst_56 fl_X13_31 t0 rfl ?_
    refine J_tr (fun r8 er8 => ?_)
    replace hf := lt_i hf r8 er8
    refine J_iconst Z.1 (v := 1) (by decide) dX13_worst_59 ?_
    replace hf := nn_i hf
    obtain ⟨a8, rfl, hf⟩ := hf
    replace hf := tg_i hf
    obtain ⟨t9, hf⟩ := hf
    replace hf := ix_i hf
    obtain ⟨i10, hf⟩ := hf
    refine J_iaload Z.1 dX13_worst_60 t9 i10 ?_
    replace hf := bd2_i hf
    obtain ⟨x13, h11, q12, hf⟩ := hf
    refine J_callV (ci := 11) (as := [.int p1, .int l3, .int p2, .int (hI h5 a8 (Int32.toNatClampNeg 1))]) (rest := [.int x7]) (sy := [.int x13, .int x7]) Z.1 dX13_worst_61 cw_X13_571 (pX13_alone_ok G (dk - 1) (by omega) q12) rfl rfl t0 (zG Z) rfl (by simp [cat_i, cat_l, cat_d, cat_rf]) (zF Z (by omega)) (zO Z (by omega) (by decide)) (zM _) Z.2.1 Z.2.1 rfl rfl ?_
    refine J_icmp_le Z.1 70 dX13_worst_64 (by decide) (fun c14 => ?_) (fun c14 => ?_)
    · rw [if_pos c14] at hf
      exact pX13_worst_b70_ok Z hK t0 hk30 _ _ _ hf
    · rw [if_neg c14] at hf
      refine J_iload Z.1 4 dX13_worst_67 rfl ?_
      refine J_istore_n Z.1 (lv2 := [(3, .int l4), (0, va_rf (some this)), (1, .int p1), (2, .int p2), (4, .int l4)]) dX13_worst_69 rfl (zL Z (by decide)) rfl ?_
      refine J_lv [1, 2, 3, 0, 4] rfl ?_
      exact pX13_worst_b70_ok Z hK t0 hk30 _ _ _ hf
def pX13_worst_l30 (g : MT) (this : Nat) (p1 : Int32) (p2 : Int32) : Nat → Int32 → Int32 → CT → Option ((Int32) × CT)
  | 0, _, _, _ => none
  | n + 1, l3, l4, h => pX13_worst_b30 g this p1 p2 (pX13_worst_l30 g this p1 p2 n) l3 l4 h
theorem pX13_worst_l30_ok {X : Cx} {G : Gx} {dk : Nat} {g : MT} {r0 : Int32} {h0 : CT} {this : Nat} {p1 : Int32} {p2 : Int32} (Z : Zx X G cX13_worst RX13 5 dk (some .int) (some (.int r0)) g h0) (hK : 3 ≤ dk) (t0 : gT g this = 12) : ∀ (n : Nat) (l3 : Int32) (l4 : Int32) (h : CT), pX13_worst_l30 g this p1 p2 n l3 l4 h = some (r0, h0) → J X g h 30 [(0, va_rf (some this)), (1, .int p1), (2, .int p2), (3, .int l3), (4, .int l4)] [] := by
  intro n
  induction n with
  | zero => intro l3 l4 h hf; cases hf
  | succ n ih => intro l3 l4 h hf; exact pX13_worst_b30_ok Z hK t0 ih l3 l4 h hf
def pX13_worst (g : MT) (h : CT) (this : Nat) (p1 : Int32) (p2 : Int32) : Option ((Int32) × CT) := tg g this 12 (lt (sI h this 1 0) fun h1 => (lt (sI h1 this 0 (pX13_whyNotAlone this p1 0 p2)) fun h2 => (if (hI h2 this 0) ≤ 0 then pX13_worst_l30 g this p1 p2  FUEL 1 2 h2 else some ((-1), h2))))
set_option maxRecDepth 10000 in
set_option maxHeartbeats 4000000 in
theorem pX13_worst_ok (G : Gx) (dk : Nat) (hK : 3 ≤ dk) {g : MT} {h h0 : CT} {this : Nat} {p1 : Int32} {p2 : Int32} {r0 : Int32} (hf : pX13_worst g h this p1 p2 = some (r0, h0)) : Ctr G dk yX13_worst cX13_worst 5 (some .int) [va_rf (some this), .int p1, .int p2] g h (some (.int r0)) g h0 := by
  refine Ctr.ofZ (lv := [(0, va_rf (some this)), (1, .int p1), (2, .int p2)]) (by decide +kernel) (by simp [cat_i, cat_l, cat_d, cat_rf]) rfl fun X Z => ?_
  unfold pX13_worst at hf
  replace hf := tg_i hf
  obtain ⟨t0, hf⟩ := hf
  refine J_aload_n Z.1 0 dX13_worst_0 rfl rfl ?_
  refine J_iconst Z.1 (v := 0) (by decide) dX13_worst_1 ?_
  refine J_putI Z.1 dX13_worst_2 fl_X13_71 (fun q => by cases q) t0 rfl rfl (congrArg Value.int (hI_s _ _ _ _)) ?_
  refine J_th (fun h1 eh1 => ?_)
  replace hf := lt_i hf h1 eh1
  refine J_aload_n Z.1 0 dX13_worst_5 rfl rfl ?_
  refine J_aload_n Z.1 0 dX13_worst_6 rfl rfl ?_
  refine J_iload_n Z.1 1 dX13_worst_7 rfl rfl ?_
  refine J_iconst Z.1 (v := 0) (by decide) dX13_worst_8 ?_
  refine J_iload_n Z.1 2 dX13_worst_9 rfl rfl ?_
  refine J_callV (ci := 11) (as := [.int p1, .int 0, .int p2]) (rest := [va_rf (some this)]) (sy := [.int (pX13_whyNotAlone this p1 0 p2), va_rf (some this)]) Z.1 dX13_worst_10 cw_X13_568 (pX13_whyNotAlone_ok G (dk - 1) (by omega) g h1 this p1 0 p2) rfl rfl t0 (zG Z) rfl (by simp [cat_i, cat_l, cat_d, cat_rf]) (zF Z (by omega)) (zO Z (by omega) (by decide)) (zM _) Z.2.1 Z.2.1 rfl rfl ?_
  refine J_putI Z.1 dX13_worst_13 fl_X13_74 (fun q => by cases q) t0 rfl rfl (congrArg Value.int (hI_s _ _ _ _)) ?_
  refine J_th (fun h2 eh2 => ?_)
  replace hf := lt_i hf h2 eh2
  refine J_aload_n Z.1 0 dX13_worst_16 rfl rfl ?_
  refine J_get (v := .int (hI h2 this 0)) Z.1 dX13_worst_17 fl_X13_74 t0 rfl ?_
  refine J_if_le Z.1 25 dX13_worst_20 (by decide) (fun c3 => ?_) (fun c3 => ?_)
  · rw [if_pos c3] at hf
    refine J_iconst Z.1 (v := 1) (by decide) dX13_worst_25 ?_
    refine J_istore_n Z.1 (lv2 := [(3, .int 1), (0, va_rf (some this)), (1, .int p1), (2, .int p2)]) dX13_worst_26 rfl (zL Z (by decide)) rfl ?_
    refine J_iconst Z.1 (v := 2) (by decide) dX13_worst_27 ?_
    refine J_istore Z.1 (lv2 := [(4, .int 2), (3, .int 1), (0, va_rf (some this)), (1, .int p1), (2, .int p2)]) dX13_worst_28 (zL Z (by decide)) rfl ?_
    refine J_lv [2, 3, 4, 1, 0] rfl ?_
    exact pX13_worst_l30_ok Z hK t0  FUEL _ _ _ hf
  · rw [if_neg c3] at hf
    refine J_iconst Z.1 (v := (-1)) (by decide) dX13_worst_23 ?_
    cases hf
    exact J_iret Z.1 Z.2.2.2.2.2 dX13_worst_24
