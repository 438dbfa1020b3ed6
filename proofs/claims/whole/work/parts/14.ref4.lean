/-! written by wip/whole/gen.py out of the printed bytecode -/
theorem dX13_many_0 : decode cX13_many 0 = .ok (.aload_n 0, 1) := by decide +kernel
theorem dX13_many_1 : decode cX13_many 1 = .ok (.iconst 0, 1) := by decide +kernel
theorem dX13_many_2 : decode cX13_many 2 = .ok (.putfield 71, 3) := by decide +kernel
theorem dX13_many_5 : decode cX13_many 5 = .ok (.aload_n 0, 1) := by decide +kernel
theorem dX13_many_6 : decode cX13_many 6 = .ok (.iconst 0, 1) := by decide +kernel
theorem dX13_many_7 : decode cX13_many 7 = .ok (.putfield 74, 3) := by decide +kernel
theorem dX13_many_10 : decode cX13_many 10 = .ok (.iload_n 1, 1) := by decide +kernel
theorem dX13_many_11 : decode cX13_many 11 = .ok (.i2l, 1) := by decide +kernel
theorem dX13_many_12 : decode cX13_many 12 = .ok (.lconst 0, 1) := by decide +kernel
theorem dX13_many_13 : decode cX13_many 13 = .ok (.ldc2_w 275, 3) := by decide +kernel
theorem dX13_many_16 : decode cX13_many 16 = .ok (.invokestatic 104, 3) := by decide +kernel
theorem dX13_many_19 : decode cX13_many 19 = .ok (.ifCond .ne 9, 3) := by decide +kernel
theorem dX13_many_22 : decode cX13_many 22 = .ok (.aload_n 0, 1) := by decide +kernel
theorem dX13_many_23 : decode cX13_many 23 = .ok (.iconst 5, 1) := by decide +kernel
theorem dX13_many_24 : decode cX13_many 24 = .ok (.invokevirtual 268, 3) := by decide +kernel
theorem dX13_many_27 : decode cX13_many 27 = .ok (.ireturn, 1) := by decide +kernel
theorem dX13_many_28 : decode cX13_many 28 = .ok (.iload_n 1, 1) := by decide +kernel
theorem dX13_many_29 : decode cX13_many 29 = .ok (.iconst 4, 1) := by decide +kernel
theorem dX13_many_30 : decode cX13_many 30 = .ok (.if_icmp .ge 12, 3) := by decide +kernel
theorem dX13_many_33 : decode cX13_many 33 = .ok (.aload_n 0, 1) := by decide +kernel
theorem dX13_many_34 : decode cX13_many 34 = .ok (.getfield 31, 3) := by decide +kernel
theorem dX13_many_37 : decode cX13_many 37 = .ok (.iload_n 1, 1) := by decide +kernel
theorem dX13_many_38 : decode cX13_many 38 = .ok (.iaload, 1) := by decide +kernel
theorem dX13_many_39 : decode cX13_many 39 = .ok (.goto 23, 3) := by decide +kernel
theorem dX13_many_42 : decode cX13_many 42 = .ok (.iload_n 1, 1) := by decide +kernel
theorem dX13_many_43 : decode cX13_many 43 = .ok (.iconst 4, 1) := by decide +kernel
theorem dX13_many_44 : decode cX13_many 44 = .ok (.if_icmp .ne 12, 3) := by decide +kernel
theorem dX13_many_47 : decode cX13_many 47 = .ok (.aload_n 0, 1) := by decide +kernel
theorem dX13_many_48 : decode cX13_many 48 = .ok (.getfield 31, 3) := by decide +kernel
theorem dX13_many_51 : decode cX13_many 51 = .ok (.iconst 5, 1) := by decide +kernel
theorem dX13_many_52 : decode cX13_many 52 = .ok (.iaload, 1) := by decide +kernel
theorem dX13_many_53 : decode cX13_many 53 = .ok (.goto 9, 3) := by decide +kernel
theorem dX13_many_56 : decode cX13_many 56 = .ok (.aload_n 0, 1) := by decide +kernel
theorem dX13_many_57 : decode cX13_many 57 = .ok (.getfield 31, 3) := by decide +kernel
theorem dX13_many_60 : decode cX13_many 60 = .ok (.iconst 4, 1) := by decide +kernel
theorem dX13_many_61 : decode cX13_many 61 = .ok (.iaload, 1) := by decide +kernel
theorem dX13_many_62 : decode cX13_many 62 = .ok (.ireturn, 1) := by decide +kernel
def pX13_many (g : MT) (h : CT) (this : Nat) (p1 : Int32) : Option ((Int32) × CT) := tg g this 12 (lt (sI h this 1 0) fun h1 => (lt (sI h1 this 0 0) fun h2 => (if (pX13_isIn (Int32.toInt64 p1) 0 5) = 0 then bd2 (pX13_refuse g h2 this 5) fun x17 h15 => (some (x17, h15)) else if 4 ≤ p1 then if p1 = 4 then lt (hR h2 this 19) fun r9 => (nn r9 fun a9 => (tg g a9 20 (ix (gL g a9) 5 (some ((hI h2 a9 (Int32.toNatClampNeg 5)), h2))))) else lt (hR h2 this 19) fun r6 => (nn r6 fun a6 => (tg g a6 20 (ix (gL g a6) 4 (some ((hI h2 a6 (Int32.toNatClampNeg 4)), h2))))) else lt (hR h2 this 19) fun r12 => (nn r12 fun a12 => (tg g a12 20 (ix (gL g a12) p1 (some ((hI h2 a12 (Int32.toNatClampNeg p1)), h2))))))))
set_option maxRecDepth 10000 in
set_option maxHeartbeats 4000000 in
theorem pX13_many_ok (G : Gx) (dk : Nat) (hK : 1 ≤ dk) {g : MT} {h h0 : CT} {this : Nat} {p1 : Int32} {r0 : Int32} (hf : pX13_many g h this p1 = some (r0, h0)) : Ctr G dk yX13_many cX13_many 2 (some .int) [va_rf (some this), .int p1] g h (some (.int r0)) g h0 := by
  refine Ctr.ofZ (lv := [(0, va_rf (some this)), (1, .int p1)]) (by decide +kernel) (by simp [cat_i, cat_l, cat_d, cat_rf]) rfl fun X Z => ?_
  unfold pX13_many at hf
  obtain ⟨t0, hf⟩ := tg_i hf
  refine J_aload_n Z.1 0 dX13_many_0 rfl rfl ?_
  refine J_iconst Z.1 (v := 0) (by decide) dX13_many_1 ?_
  refine J_putI Z.1 dX13_many_2 fl_X13_71 (fun q => by cases q) t0 rfl rfl (congrArg Value.int (hI_s _ _ _ _)) ?_
  refine J_th (fun h1 eh1 => ?_)
  replace hf := lt_i hf h1 eh1
  refine J_aload_n Z.1 0 dX13_many_5 rfl rfl ?_
  refine J_iconst Z.1 (v := 0) (by decide) dX13_many_6 ?_
  refine J_putI Z.1 dX13_many_7 fl_X13_74 (fun q => by cases q) t0 rfl rfl (congrArg Value.int (hI_s _ _ _ _)) ?_
  refine J_th (fun h2 eh2 => ?_)
  replace hf := lt_i hf h2 eh2
  refine J_iload_n Z.1 1 dX13_many_10 rfl rfl ?_
  refine J_i2l Z.1 dX13_many_11 ?_
  refine J_lconst Z.1 (v := 0) (by decide) dX13_many_12 ?_
  refine J_ldc2 Z.1 q_1749 dX13_many_13 ?_
  refine J_callS (as := [.long (Int32.toInt64 p1), .long 0, .long 5]) (rest := []) (sy := [.int (pX13_isIn (Int32.toInt64 p1) 0 5)]) Z.1 dX13_many_16 cw_X13_104 (pX13_isIn_ok G (dk - 1) (by omega) g h2 (Int32.toInt64 p1) 0 5) (zG Z) rfl (by decide) (zF Z (by omega)) (zO Z (by omega) (by decide)) (zM _) Z.2.1 Z.2.1 rfl rfl ?_
  refine J_if_ne Z.1 28 dX13_many_19 (by decide) (fun c3 => ?_) (fun c3 => ?_)
  · rw [if_neg c3] at hf
    refine J_iload_n Z.1 1 dX13_many_28 rfl rfl ?_
    refine J_iconst Z.1 (v := 4) (by decide) dX13_many_29 ?_
    refine J_icmp_ge Z.1 42 dX13_many_30 (by decide) (fun c4 => ?_) (fun c4 => ?_)
    · rw [if_pos c4] at hf
      refine J_iload_n Z.1 1 dX13_many_42 rfl rfl ?_
      refine J_iconst Z.1 (v := 4) (by decide) dX13_many_43 ?_
      refine J_icmp_ne Z.1 56 dX13_many_44 (by decide) (fun c5 => ?_) (fun c5 => ?_)
      · rw [if_neg c5] at hf
        refine J_aload_n Z.1 0 dX13_many_56 rfl rfl ?_
        refine J_get (v := va_rf (hR h2 this 19)) Z.1 dX13_many_57 fl_X13_31 t0 rfl ?_
        refine J_tr (fun r6 er6 => ?_)
        replace hf := lt_i hf r6 er6
        refine J_iconst Z.1 (v := 4) (by decide) dX13_many_60 ?_
        obtain ⟨a6, rfl, hf⟩ := nn_i hf
        obtain ⟨t7, hf⟩ := tg_i hf
        obtain ⟨i8, hf⟩ := ix_i hf
        refine J_iaload Z.1 dX13_many_61 t7 i8 ?_
        cases hf
        exact J_iret Z.1 Z.2.2.2.2.2 dX13_many_62
      · rw [if_pos c5] at hf
        refine J_aload_n Z.1 0 dX13_many_47 rfl rfl ?_
        refine J_get (v := va_rf (hR h2 this 19)) Z.1 dX13_many_48 fl_X13_31 t0 rfl ?_
        refine J_tr (fun r9 er9 => ?_)
        replace hf := lt_i hf r9 er9
        refine J_iconst Z.1 (v := 5) (by decide) dX13_many_51 ?_
        obtain ⟨a9, rfl, hf⟩ := nn_i hf
        obtain ⟨t10, hf⟩ := tg_i hf
        obtain ⟨i11, hf⟩ := ix_i hf
        refine J_iaload Z.1 dX13_many_52 t10 i11 ?_
        refine J_goto Z.1 62 dX13_many_53 (by decide) ?_
        cases hf
        exact J_iret Z.1 Z.2.2.2.2.2 dX13_many_62
    · rw [if_neg c4] at hf
      refine J_aload_n Z.1 0 dX13_many_33 rfl rfl ?_
      refine J_get (v := va_rf (hR h2 this 19)) Z.1 dX13_many_34 fl_X13_31 t0 rfl ?_
      refine J_tr (fun r12 er12 => ?_)
      replace hf := lt_i hf r12 er12
      refine J_iload_n Z.1 1 dX13_many_37 rfl rfl ?_
      obtain ⟨a12, rfl, hf⟩ := nn_i hf
      obtain ⟨t13, hf⟩ := tg_i hf
      obtain ⟨i14, hf⟩ := ix_i hf
      refine J_iaload Z.1 dX13_many_38 t13 i14 ?_
      refine J_goto Z.1 62 dX13_many_39 (by decide) ?_
      cases hf
      exact J_iret Z.1 Z.2.2.2.2.2 dX13_many_62
  · rw [if_pos c3] at hf
    refine J_aload_n Z.1 0 dX13_many_22 rfl rfl ?_
    refine J_iconst Z.1 (v := 5) (by decide) dX13_many_23 ?_
    obtain ⟨x17, h15, q16, hf⟩ := bd2_i hf
    refine J_callV (ci := 11) (as := [.int 5]) (rest := []) (sy := [.int x17]) Z.1 dX13_many_24 cw_X13_268 (pX13_refuse_ok G (dk - 1) (by omega) q16) rfl rfl t0 (zG Z) rfl (by decide) (zF Z (by omega)) (zO Z (by omega) (by decide)) (zM _) Z.2.1 Z.2.1 rfl rfl ?_
    cases hf
    exact J_iret Z.1 Z.2.2.2.2.2 dX13_many_27
theorem dX13_element_0 : decode cX13_element 0 = .ok (.aload_n 0, 1) := by decide +kernel
theorem dX13_element_1 : decode cX13_element 1 = .ok (.iconst 0, 1) := by decide +kernel
theorem dX13_element_2 : decode cX13_element 2 = .ok (.putfield 71, 3) := by decide +kernel
theorem dX13_element_5 : decode cX13_element 5 = .ok (.aload_n 0, 1) := by decide +kernel
theorem dX13_element_6 : decode cX13_element 6 = .ok (.iconst 0, 1) := by decide +kernel
theorem dX13_element_7 : decode cX13_element 7 = .ok (.putfield 74, 3) := by decide +kernel
theorem dX13_element_10 : decode cX13_element 10 = .ok (.iload_n 1, 1) := by decide +kernel
theorem dX13_element_11 : decode cX13_element 11 = .ok (.invokestatic 281, 3) := by decide +kernel
theorem dX13_element_14 : decode cX13_element 14 = .ok (.ifCond .eq 10, 3) := by decide +kernel
theorem dX13_element_17 : decode cX13_element 17 = .ok (.iload_n 2, 1) := by decide +kernel
theorem dX13_element_18 : decode cX13_element 18 = .ok (.invokestatic 284, 3) := by decide +kernel
theorem dX13_element_21 : decode cX13_element 21 = .ok (.ifCond .ne 9, 3) := by decide +kernel
theorem dX13_element_24 : decode cX13_element 24 = .ok (.aload_n 0, 1) := by decide +kernel
theorem dX13_element_25 : decode cX13_element 25 = .ok (.iconst 2, 1) := by decide +kernel
theorem dX13_element_26 : decode cX13_element 26 = .ok (.invokevirtual 268, 3) := by decide +kernel
theorem dX13_element_29 : decode cX13_element 29 = .ok (.ireturn, 1) := by decide +kernel
theorem dX13_element_30 : decode cX13_element 30 = .ok (.aload_n 0, 1) := by decide +kernel
theorem dX13_element_31 : decode cX13_element 31 = .ok (.getfield 31, 3) := by decide +kernel
theorem dX13_element_34 : decode cX13_element 34 = .ok (.iconst 4, 1) := by decide +kernel
theorem dX13_element_35 : decode cX13_element 35 = .ok (.iaload, 1) := by decide +kernel
theorem dX13_element_36 : decode cX13_element 36 = .ok (.iload_n 1, 1) := by decide +kernel
theorem dX13_element_37 : decode cX13_element 37 = .ok (.invokestatic 287, 3) := by decide +kernel
theorem dX13_element_40 : decode cX13_element 40 = .ok (.ifCond .eq 21, 3) := by decide +kernel
theorem dX13_element_43 : decode cX13_element 43 = .ok (.aload_n 0, 1) := by decide +kernel
theorem dX13_element_44 : decode cX13_element 44 = .ok (.aload_n 0, 1) := by decide +kernel
theorem dX13_element_45 : decode cX13_element 45 = .ok (.getfield 34, 3) := by decide +kernel
theorem dX13_element_48 : decode cX13_element 48 = .ok (.bipush 16, 2) := by decide +kernel
theorem dX13_element_50 : decode cX13_element 50 = .ok (.iload_n 1, 1) := by decide +kernel
theorem dX13_element_51 : decode cX13_element 51 = .ok (.imul, 1) := by decide +kernel
theorem dX13_element_52 : decode cX13_element 52 = .ok (.iload_n 2, 1) := by decide +kernel
theorem dX13_element_53 : decode cX13_element 53 = .ok (.iadd, 1) := by decide +kernel
theorem dX13_element_54 : decode cX13_element 54 = .ok (.daload, 1) := by decide +kernel
theorem dX13_element_55 : decode cX13_element 55 = .ok (.invokevirtual 291, 3) := by decide +kernel
theorem dX13_element_58 : decode cX13_element 58 = .ok (.goto 8, 3) := by decide +kernel
theorem dX13_element_61 : decode cX13_element 61 = .ok (.aload_n 0, 1) := by decide +kernel
theorem dX13_element_62 : decode cX13_element 62 = .ok (.iconst 3, 1) := by decide +kernel
theorem dX13_element_63 : decode cX13_element 63 = .ok (.invokevirtual 268, 3) := by decide +kernel
theorem dX13_element_66 : decode cX13_element 66 = .ok (.ireturn, 1) := by decide +kernel
def pX13_element_b24 (g : MT) (this : Nat) (p1 : Int32) (p2 : Int32) (h : CT) : Option ((Int32) × CT) := bd2 (pX13_refuse g h this 2) fun x3 h1 => (some (x3, h1))
set_option maxRecDepth 10000 in
set_option maxHeartbeats 4000000 in
theorem pX13_element_b24_ok {X : Cx} {G : Gx} {dk : Nat} {g : MT} {r0 : Int32} {h0 : CT} {this : Nat} {p1 : Int32} {p2 : Int32} (Z : Zx X G cX13_element RX13 3 dk (some .int) (some (.int r0)) g h0) (hK : 2 ≤ dk) (t0 : gT g this = 12) (h : CT) (hf : pX13_element_b24 g this p1 p2 h = some (r0, h0)) : J X g h 24 [(0, va_rf (some this))] [] := by
  unfold pX13_element_b24 at hf
  refine J_aload_n Z.1 0 dX13_element_24 rfl rfl ?_
  refine J_iconst Z.1 (v := 2) (by decide) dX13_element_25 ?_
  obtain ⟨x3, h1, q2, hf⟩ := bd2_i hf
  refine J_callV (ci := 11) (as := [.int 2]) (rest := []) (sy := [.int x3]) Z.1 dX13_element_26 cw_X13_268 (pX13_refuse_ok G (dk - 1) (by omega) q2) rfl rfl t0 (zG Z) rfl (by decide) (zF Z (by omega)) (zO Z (by omega) (by decide)) (zM _) Z.2.1 Z.2.1 rfl rfl ?_
  cases hf
  exact J_iret Z.1 Z.2.2.2.2.2 dX13_element_29
def pX13_element (g : MT) (h : CT) (this : Nat) (p1 : Int32) (p2 : Int32) : Option ((Int32) × CT) := tg g this 12 (lt (sI h this 1 0) fun h1 => (lt (sI h1 this 0 0) fun h2 => (if (pX13_isRow p1) = 0 then pX13_element_b24 g this p1 p2  h2 else if (pX13_isElement p2) = 0 then pX13_element_b24 g this p1 p2  h2 else lt (hR h2 this 19) fun r5 => (nn r5 fun a5 => (tg g a5 20 (ix (gL g a5) 4 (if (pX13_has (hI h2 a5 (Int32.toNatClampNeg 4)) p1) = 0 then bd2 (pX13_refuse g h2 this 3) fun x11 h9 => (some (x11, h9)) else lt (hR h2 this 20) fun r12 => (nn r12 fun a12 => (tg g a12 22 (ix (gL g a12) ((16 * p1) + p2) (bd2 (pX13_tells g h2 this (hD h2 a12 (Int32.toNatClampNeg ((16 * p1) + p2)))) fun x17 h15 => (some (x17, h15)))))))))))))
set_option maxRecDepth 10000 in
set_option maxHeartbeats 4000000 in
theorem pX13_element_ok (G : Gx) (dk : Nat) (hK : 2 ≤ dk) {g : MT} {h h0 : CT} {this : Nat} {p1 : Int32} {p2 : Int32} {r0 : Int32} (hf : pX13_element g h this p1 p2 = some (r0, h0)) : Ctr G dk yX13_element cX13_element 3 (some .int) [va_rf (some this), .int p1, .int p2] g h (some (.int r0)) g h0 := by
  refine Ctr.ofZ (lv := [(0, va_rf (some this)), (1, .int p1), (2, .int p2)]) (by decide +kernel) (by simp [cat_i, cat_l, cat_d, cat_rf]) rfl fun X Z => ?_
  unfold pX13_element at hf
  obtain ⟨t0, hf⟩ := tg_i hf
  refine J_aload_n Z.1 0 dX13_element_0 rfl rfl ?_
  refine J_iconst Z.1 (v := 0) (by decide) dX13_element_1 ?_
  refine J_putI Z.1 dX13_element_2 fl_X13_71 (fun q => by cases q) t0 rfl rfl (congrArg Value.int (hI_s _ _ _ _)) ?_
  refine J_th (fun h1 eh1 => ?_)
  replace hf := lt_i hf h1 eh1
  refine J_aload_n Z.1 0 dX13_element_5 rfl rfl ?_
  refine J_iconst Z.1 (v := 0) (by decide) dX13_element_6 ?_
  refine J_putI Z.1 dX13_element_7 fl_X13_74 (fun q => by cases q) t0 rfl rfl (congrArg Value.int (hI_s _ _ _ _)) ?_
  refine J_th (fun h2 eh2 => ?_)
  replace hf := lt_i hf h2 eh2
  refine J_iload_n Z.1 1 dX13_element_10 rfl rfl ?_
  refine J_callS (as := [.int p1]) (rest := []) (sy := [.int (pX13_isRow p1)]) Z.1 dX13_element_11 cw_X13_281 (pX13_isRow_ok G (dk - 1) (by omega) g h2 p1) (zG Z) rfl (by decide) (zF Z (by omega)) (zO Z (by omega) (by decide)) (zM _) Z.2.1 Z.2.1 rfl rfl ?_
  refine J_if_eq Z.1 24 dX13_element_14 (by decide) (fun c3 => ?_) (fun c3 => ?_)
  · rw [if_pos c3] at hf
    refine J_lv [0] rfl ?_
    exact pX13_element_b24_ok Z hK t0  _ hf
  · rw [if_neg c3] at hf
    refine J_iload_n Z.1 2 dX13_element_17 rfl rfl ?_
    refine J_callS (as := [.int p2]) (rest := []) (sy := [.int (pX13_isElement p2)]) Z.1 dX13_element_18 cw_X13_284 (pX13_isElement_ok G (dk - 1) (by omega) g h2 p2) (zG Z) rfl (by decide) (zF Z (by omega)) (zO Z (by omega) (by decide)) (zM _) Z.2.1 Z.2.1 rfl rfl ?_
    refine J_if_ne Z.1 30 dX13_element_21 (by decide) (fun c4 => ?_) (fun c4 => ?_)
    · rw [if_neg c4] at hf
      refine J_aload_n Z.1 0 dX13_element_30 rfl rfl ?_
      refine J_get (v := va_rf (hR h2 this 19)) Z.1 dX13_element_31 fl_X13_31 t0 rfl ?_
      refine J_tr (fun r5 er5 => ?_)
      replace hf := lt_i hf r5 er5
      refine J_iconst Z.1 (v := 4) (by decide) dX13_element_34 ?_
      obtain ⟨a5, rfl, hf⟩ := nn_i hf
      obtain ⟨t6, hf⟩ := tg_i hf
      obtain ⟨i7, hf⟩ := ix_i hf
      refine J_iaload Z.1 dX13_element_35 t6 i7 ?_
      refine J_iload_n Z.1 1 dX13_element_36 rfl rfl ?_
      refine J_callS (as := [.int (hI h2 a5 (Int32.toNatClampNeg 4)), .int p1]) (rest := []) (sy := [.int (pX13_has (hI h2 a5 (Int32.toNatClampNeg 4)) p1)]) Z.1 dX13_element_37 cw_X13_287 (pX13_has_ok G (dk - 1) (by omega) g h2 (hI h2 a5 (Int32.toNatClampNeg 4)) p1) (zG Z) rfl (by decide) (zF Z (by omega)) (zO Z (by omega) (by decide)) (zM _) Z.2.1 Z.2.1 rfl rfl ?_
      refine J_if_eq Z.1 61 dX13_element_40 (by decide) (fun c8 => ?_) (fun c8 => ?_)
      · rw [if_pos c8] at hf
        refine J_aload_n Z.1 0 dX13_element_61 rfl rfl ?_
        refine J_iconst Z.1 (v := 3) (by decide) dX13_element_62 ?_
        obtain ⟨x11, h9, q10, hf⟩ := bd2_i hf
        refine J_callV (ci := 11) (as := [.int 3]) (rest := []) (sy := [.int x11]) Z.1 dX13_element_63 cw_X13_268 (pX13_refuse_ok G (dk - 1) (by omega) q10) rfl rfl t0 (zG Z) rfl (by decide) (zF Z (by omega)) (zO Z (by omega) (by decide)) (zM _) Z.2.1 Z.2.1 rfl rfl ?_
        cases hf
        exact J_iret Z.1 Z.2.2.2.2.2 dX13_element_66
      · rw [if_neg c8] at hf
        refine J_aload_n Z.1 0 dX13_element_43 rfl rfl ?_
        refine J_aload_n Z.1 0 dX13_element_44 rfl rfl ?_
        refine J_get (v := va_rf (hR h2 this 20)) Z.1 dX13_element_45 fl_X13_34 t0 rfl ?_
        refine J_tr (fun r12 er12 => ?_)
        replace hf := lt_i hf r12 er12
        refine J_bipush Z.1 (v := 16) (by decide) dX13_element_48 ?_
        refine J_iload_n Z.1 1 dX13_element_50 rfl rfl ?_
        refine J_imul Z.1 dX13_element_51 ?_
        refine J_iload_n Z.1 2 dX13_element_52 rfl rfl ?_
        refine J_iadd Z.1 dX13_element_53 ?_
        obtain ⟨a12, rfl, hf⟩ := nn_i hf
        obtain ⟨t13, hf⟩ := tg_i hf
        obtain ⟨i14, hf⟩ := ix_i hf
        refine J_daload Z.1 dX13_element_54 t13 i14 ?_
        obtain ⟨x17, h15, q16, hf⟩ := bd2_i hf
        refine J_callV (ci := 11) (as := [.double (hD h2 a12 (Int32.toNatClampNeg ((16 * p1) + p2)))]) (rest := []) (sy := [.int x17]) Z.1 dX13_element_55 cw_X13_291 (pX13_tells_ok G (dk - 1) (by omega) q16) rfl rfl t0 (zG Z) rfl (by decide) (zF Z (by omega)) (zO Z (by omega) (by decide)) (zM _) Z.2.1 Z.2.1 rfl rfl ?_
        refine J_goto Z.1 66 dX13_element_58 (by decide) ?_
        cases hf
        exact J_iret Z.1 Z.2.2.2.2.2 dX13_element_66
    · rw [if_pos c4] at hf
      refine J_lv [0] rfl ?_
      exact pX13_element_b24_ok Z hK t0  _ hf
theorem dX13_scalar_0 : decode cX13_scalar 0 = .ok (.aload_n 0, 1) := by decide +kernel
theorem dX13_scalar_1 : decode cX13_scalar 1 = .ok (.iconst 0, 1) := by decide +kernel
theorem dX13_scalar_2 : decode cX13_scalar 2 = .ok (.putfield 71, 3) := by decide +kernel
theorem dX13_scalar_5 : decode cX13_scalar 5 = .ok (.aload_n 0, 1) := by decide +kernel
theorem dX13_scalar_6 : decode cX13_scalar 6 = .ok (.iconst 0, 1) := by decide +kernel
theorem dX13_scalar_7 : decode cX13_scalar 7 = .ok (.putfield 74, 3) := by decide +kernel
theorem dX13_scalar_10 : decode cX13_scalar 10 = .ok (.iload_n 1, 1) := by decide +kernel
theorem dX13_scalar_11 : decode cX13_scalar 11 = .ok (.invokestatic 294, 3) := by decide +kernel
theorem dX13_scalar_14 : decode cX13_scalar 14 = .ok (.ifCond .eq 19, 3) := by decide +kernel
theorem dX13_scalar_17 : decode cX13_scalar 17 = .ok (.aload_n 0, 1) := by decide +kernel
theorem dX13_scalar_18 : decode cX13_scalar 18 = .ok (.aload_n 0, 1) := by decide +kernel
theorem dX13_scalar_19 : decode cX13_scalar 19 = .ok (.getfield 34, 3) := by decide +kernel
theorem dX13_scalar_22 : decode cX13_scalar 22 = .ok (.bipush 96, 2) := by decide +kernel
theorem dX13_scalar_24 : decode cX13_scalar 24 = .ok (.iload_n 1, 1) := by decide +kernel
theorem dX13_scalar_25 : decode cX13_scalar 25 = .ok (.iadd, 1) := by decide +kernel
theorem dX13_scalar_26 : decode cX13_scalar 26 = .ok (.daload, 1) := by decide +kernel
theorem dX13_scalar_27 : decode cX13_scalar 27 = .ok (.invokevirtual 291, 3) := by decide +kernel
theorem dX13_scalar_30 : decode cX13_scalar 30 = .ok (.goto 8, 3) := by decide +kernel
theorem dX13_scalar_33 : decode cX13_scalar 33 = .ok (.aload_n 0, 1) := by decide +kernel
theorem dX13_scalar_34 : decode cX13_scalar 34 = .ok (.iconst 2, 1) := by decide +kernel
theorem dX13_scalar_35 : decode cX13_scalar 35 = .ok (.invokevirtual 268, 3) := by decide +kernel
theorem dX13_scalar_38 : decode cX13_scalar 38 = .ok (.ireturn, 1) := by decide +kernel
def pX13_scalar (g : MT) (h : CT) (this : Nat) (p1 : Int32) : Option ((Int32) × CT) := tg g this 12 (lt (sI h this 1 0) fun h1 => (lt (sI h1 this 0 0) fun h2 => (if (pX13_isScalar p1) = 0 then bd2 (pX13_refuse g h2 this 2) fun x6 h4 => (some (x6, h4)) else lt (hR h2 this 20) fun r7 => (nn r7 fun a7 => (tg g a7 22 (ix (gL g a7) (96 + p1) (bd2 (pX13_tells g h2 this (hD h2 a7 (Int32.toNatClampNeg (96 + p1)))) fun x12 h10 => (some (x12, h10)))))))))
set_option maxRecDepth 10000 in
set_option maxHeartbeats 4000000 in
theorem pX13_scalar_ok (G : Gx) (dk : Nat) (hK : 2 ≤ dk) {g : MT} {h h0 : CT} {this : Nat} {p1 : Int32} {r0 : Int32} (hf : pX13_scalar g h this p1 = some (r0, h0)) : Ctr G dk yX13_scalar cX13_scalar 2 (some .int) [va_rf (some this), .int p1] g h (some (.int r0)) g h0 := by
  refine Ctr.ofZ (lv := [(0, va_rf (some this)), (1, .int p1)]) (by decide +kernel) (by simp [cat_i, cat_l, cat_d, cat_rf]) rfl fun X Z => ?_
  unfold pX13_scalar at hf
  obtain ⟨t0, hf⟩ := tg_i hf
  refine J_aload_n Z.1 0 dX13_scalar_0 rfl rfl ?_
  refine J_iconst Z.1 (v := 0) (by decide) dX13_scalar_1 ?_
  refine J_putI Z.1 dX13_scalar_2 fl_X13_71 (fun q => by cases q) t0 rfl rfl (congrArg Value.int (hI_s _ _ _ _)) ?_
  refine J_th (fun h1 eh1 => ?_)
  replace hf := lt_i hf h1 eh1
  refine J_aload_n Z.1 0 dX13_scalar_5 rfl rfl ?_
  refine J_iconst Z.1 (v := 0) (by decide) dX13_scalar_6 ?_
  refine J_putI Z.1 dX13_scalar_7 fl_X13_74 (fun q => by cases q) t0 rfl rfl (congrArg Value.int (hI_s _ _ _ _)) ?_
  refine J_th (fun h2 eh2 => ?_)
  replace hf := lt_i hf h2 eh2
  refine J_iload_n Z.1 1 dX13_scalar_10 rfl rfl ?_
  refine J_callS (as := [.int p1]) (rest := []) (sy := [.int (pX13_isScalar p1)]) Z.1 dX13_scalar_11 cw_X13_294 (pX13_isScalar_ok G (dk - 1) (by omega) g h2 p1) (zG Z) rfl (by decide) (zF Z (by omega)) (zO Z (by omega) (by decide)) (zM _) Z.2.1 Z.2.1 rfl rfl ?_
  refine J_if_eq Z.1 33 dX13_scalar_14 (by decide) (fun c3 => ?_) (fun c3 => ?_)
  · rw [if_pos c3] at hf
    refine J_aload_n Z.1 0 dX13_scalar_33 rfl rfl ?_
    refine J_iconst Z.1 (v := 2) (by decide) dX13_scalar_34 ?_
    obtain ⟨x6, h4, q5, hf⟩ := bd2_i hf
    refine J_callV (ci := 11) (as := [.int 2]) (rest := []) (sy := [.int x6]) Z.1 dX13_scalar_35 cw_X13_268 (pX13_refuse_ok G (dk - 1) (by omega) q5) rfl rfl t0 (zG Z) rfl (by decide) (zF Z (by omega)) (zO Z (by omega) (by decide)) (zM _) Z.2.1 Z.2.1 rfl rfl ?_
    cases hf
    exact J_iret Z.1 Z.2.2.2.2.2 dX13_scalar_38
  · rw [if_neg c3] at hf
    refine J_aload_n Z.1 0 dX13_scalar_17 rfl rfl ?_
    refine J_aload_n Z.1 0 dX13_scalar_18 rfl rfl ?_
    refine J_get (v := va_rf (hR h2 this 20)) Z.1 dX13_scalar_19 fl_X13_34 t0 rfl ?_
    refine J_tr (fun r7 er7 => ?_)
    replace hf := lt_i hf r7 er7
    refine J_bipush Z.1 (v := 96) (by decide) dX13_scalar_22 ?_
    refine J_iload_n Z.1 1 dX13_scalar_24 rfl rfl ?_
    refine J_iadd Z.1 dX13_scalar_25 ?_
    obtain ⟨a7, rfl, hf⟩ := nn_i hf
    obtain ⟨t8, hf⟩ := tg_i hf
    obtain ⟨i9, hf⟩ := ix_i hf
    refine J_daload Z.1 dX13_scalar_26 t8 i9 ?_
    obtain ⟨x12, h10, q11, hf⟩ := bd2_i hf
    refine J_callV (ci := 11) (as := [.double (hD h2 a7 (Int32.toNatClampNeg (96 + p1)))]) (rest := []) (sy := [.int x12]) Z.1 dX13_scalar_27 cw_X13_291 (pX13_tells_ok G (dk - 1) (by omega) q11) rfl rfl t0 (zG Z) rfl (by decide) (zF Z (by omega)) (zO Z (by omega) (by decide)) (zM _) Z.2.1 Z.2.1 rfl rfl ?_
    refine J_goto Z.1 38 dX13_scalar_30 (by decide) ?_
    cases hf
    exact J_iret Z.1 Z.2.2.2.2.2 dX13_scalar_38
theorem dX13_word_0 : decode cX13_word 0 = .ok (.aload_n 0, 1) := by decide +kernel
theorem dX13_word_1 : decode cX13_word 1 = .ok (.iconst 0, 1) := by decide +kernel
theorem dX13_word_2 : decode cX13_word 2 = .ok (.putfield 71, 3) := by decide +kernel
theorem dX13_word_5 : decode cX13_word 5 = .ok (.aload_n 0, 1) := by decide +kernel
theorem dX13_word_6 : decode cX13_word 6 = .ok (.iconst 0, 1) := by decide +kernel
theorem dX13_word_7 : decode cX13_word 7 = .ok (.putfield 74, 3) := by decide +kernel
theorem dX13_word_10 : decode cX13_word 10 = .ok (.iload_n 1, 1) := by decide +kernel
theorem dX13_word_11 : decode cX13_word 11 = .ok (.invokestatic 297, 3) := by decide +kernel
theorem dX13_word_14 : decode cX13_word 14 = .ok (.ifCond .eq 19, 3) := by decide +kernel
theorem dX13_word_17 : decode cX13_word 17 = .ok (.aload_n 0, 1) := by decide +kernel
theorem dX13_word_18 : decode cX13_word 18 = .ok (.aload_n 0, 1) := by decide +kernel
theorem dX13_word_19 : decode cX13_word 19 = .ok (.getfield 34, 3) := by decide +kernel
theorem dX13_word_22 : decode cX13_word 22 = .ok (.bipush 100, 2) := by decide +kernel
theorem dX13_word_24 : decode cX13_word 24 = .ok (.iload_n 1, 1) := by decide +kernel
theorem dX13_word_25 : decode cX13_word 25 = .ok (.iadd, 1) := by decide +kernel
theorem dX13_word_26 : decode cX13_word 26 = .ok (.daload, 1) := by decide +kernel
theorem dX13_word_27 : decode cX13_word 27 = .ok (.invokevirtual 291, 3) := by decide +kernel
theorem dX13_word_30 : decode cX13_word 30 = .ok (.goto 8, 3) := by decide +kernel
theorem dX13_word_33 : decode cX13_word 33 = .ok (.aload_n 0, 1) := by decide +kernel
theorem dX13_word_34 : decode cX13_word 34 = .ok (.iconst 2, 1) := by decide +kernel
theorem dX13_word_35 : decode cX13_word 35 = .ok (.invokevirtual 268, 3) := by decide +kernel
theorem dX13_word_38 : decode cX13_word 38 = .ok (.ireturn, 1) := by decide +kernel
def pX13_word (g : MT) (h : CT) (this : Nat) (p1 : Int32) : Option ((Int32) × CT) := tg g this 12 (lt (sI h this 1 0) fun h1 => (lt (sI h1 this 0 0) fun h2 => (if (pX13_isWordAt p1) = 0 then bd2 (pX13_refuse g h2 this 2) fun x6 h4 => (some (x6, h4)) else lt (hR h2 this 20) fun r7 => (nn r7 fun a7 => (tg g a7 22 (ix (gL g a7) (100 + p1) (bd2 (pX13_tells g h2 this (hD h2 a7 (Int32.toNatClampNeg (100 + p1)))) fun x12 h10 => (some (x12, h10)))))))))
set_option maxRecDepth 10000 in
set_option maxHeartbeats 4000000 in
theorem pX13_word_ok (G : Gx) (dk : Nat) (hK : 2 ≤ dk) {g : MT} {h h0 : CT} {this : Nat} {p1 : Int32} {r0 : Int32} (hf : pX13_word g h this p1 = some (r0, h0)) : Ctr G dk yX13_word cX13_word 2 (some .int) [va_rf (some this), .int p1] g h (some (.int r0)) g h0 := by
  refine Ctr.ofZ (lv := [(0, va_rf (some this)), (1, .int p1)]) (by decide +kernel) (by simp [cat_i, cat_l, cat_d, cat_rf]) rfl fun X Z => ?_
  unfold pX13_word at hf
  obtain ⟨t0, hf⟩ := tg_i hf
  refine J_aload_n Z.1 0 dX13_word_0 rfl rfl ?_
  refine J_iconst Z.1 (v := 0) (by decide) dX13_word_1 ?_
  refine J_putI Z.1 dX13_word_2 fl_X13_71 (fun q => by cases q) t0 rfl rfl (congrArg Value.int (hI_s _ _ _ _)) ?_
  refine J_th (fun h1 eh1 => ?_)
  replace hf := lt_i hf h1 eh1
  refine J_aload_n Z.1 0 dX13_word_5 rfl rfl ?_
  refine J_iconst Z.1 (v := 0) (by decide) dX13_word_6 ?_
  refine J_putI Z.1 dX13_word_7 fl_X13_74 (fun q => by cases q) t0 rfl rfl (congrArg Value.int (hI_s _ _ _ _)) ?_
  refine J_th (fun h2 eh2 => ?_)
  replace hf := lt_i hf h2 eh2
  refine J_iload_n Z.1 1 dX13_word_10 rfl rfl ?_
  refine J_callS (as := [.int p1]) (rest := []) (sy := [.int (pX13_isWordAt p1)]) Z.1 dX13_word_11 cw_X13_297 (pX13_isWordAt_ok G (dk - 1) (by omega) g h2 p1) (zG Z) rfl (by decide) (zF Z (by omega)) (zO Z (by omega) (by decide)) (zM _) Z.2.1 Z.2.1 rfl rfl ?_
  refine J_if_eq Z.1 33 dX13_word_14 (by decide) (fun c3 => ?_) (fun c3 => ?_)
  · rw [if_pos c3] at hf
    refine J_aload_n Z.1 0 dX13_word_33 rfl rfl ?_
    refine J_iconst Z.1 (v := 2) (by decide) dX13_word_34 ?_
    obtain ⟨x6, h4, q5, hf⟩ := bd2_i hf
    refine J_callV (ci := 11) (as := [.int 2]) (rest := []) (sy := [.int x6]) Z.1 dX13_word_35 cw_X13_268 (pX13_refuse_ok G (dk - 1) (by omega) q5) rfl rfl t0 (zG Z) rfl (by decide) (zF Z (by omega)) (zO Z (by omega) (by decide)) (zM _) Z.2.1 Z.2.1 rfl rfl ?_
    cases hf
    exact J_iret Z.1 Z.2.2.2.2.2 dX13_word_38
  · rw [if_neg c3] at hf
    refine J_aload_n Z.1 0 dX13_word_17 rfl rfl ?_
    refine J_aload_n Z.1 0 dX13_word_18 rfl rfl ?_
    refine J_get (v := va_rf (hR h2 this 20)) Z.1 dX13_word_19 fl_X13_34 t0 rfl ?_
    refine J_tr (fun r7 er7 => ?_)
    replace hf := lt_i hf r7 er7
    refine J_bipush Z.1 (v := 100) (by decide) dX13_word_22 ?_
    refine J_iload_n Z.1 1 dX13_word_24 rfl rfl ?_
    refine J_iadd Z.1 dX13_word_25 ?_
    obtain ⟨a7, rfl, hf⟩ := nn_i hf
    obtain ⟨t8, hf⟩ := tg_i hf
    obtain ⟨i9, hf⟩ := ix_i hf
    refine J_daload Z.1 dX13_word_26 t8 i9 ?_
    obtain ⟨x12, h10, q11, hf⟩ := bd2_i hf
    refine J_callV (ci := 11) (as := [.double (hD h2 a7 (Int32.toNatClampNeg (100 + p1)))]) (rest := []) (sy := [.int x12]) Z.1 dX13_word_27 cw_X13_291 (pX13_tells_ok G (dk - 1) (by omega) q11) rfl rfl t0 (zG Z) rfl (by decide) (zF Z (by omega)) (zO Z (by omega) (by decide)) (zM _) Z.2.1 Z.2.1 rfl rfl ?_
    refine J_goto Z.1 38 dX13_word_30 (by decide) ?_
    cases hf
    exact J_iret Z.1 Z.2.2.2.2.2 dX13_word_38
theorem dX13_becomes_0 : decode cX13_becomes 0 = .ok (.aload_n 0, 1) := by decide +kernel
theorem dX13_becomes_1 : decode cX13_becomes 1 = .ok (.getfield 34, 3) := by decide +kernel
theorem dX13_becomes_4 : decode cX13_becomes 4 = .ok (.iload_n 1, 1) := by decide +kernel
theorem dX13_becomes_5 : decode cX13_becomes 5 = .ok (.dload_n 2, 1) := by decide +kernel
theorem dX13_becomes_6 : decode cX13_becomes 6 = .ok (.dastore, 1) := by decide +kernel
theorem dX13_becomes_7 : decode cX13_becomes 7 = .ok (.aload_n 0, 1) := by decide +kernel
theorem dX13_becomes_8 : decode cX13_becomes 8 = .ok (.dload_n 2, 1) := by decide +kernel
theorem dX13_becomes_9 : decode cX13_becomes 9 = .ok (.invokevirtual 291, 3) := by decide +kernel
theorem dX13_becomes_12 : decode cX13_becomes 12 = .ok (.ireturn, 1) := by decide +kernel
def pX13_becomes (g : MT) (h : CT) (this : Nat) (p1 : Int32) (p2 : UInt64) : Option ((Int32) × CT) := tg g this 12 (lt (hR h this 20) fun r1 => (nn r1 fun a1 => (tg g a1 22 (ix (gL g a1) p1 (lt (sD h a1 (Int32.toNatClampNeg p1) p2) fun h4 => (bd2 (pX13_tells g h4 this p2) fun x7 h5 => (some (x7, h5))))))))
set_option maxRecDepth 10000 in
set_option maxHeartbeats 4000000 in
theorem pX13_becomes_ok (G : Gx) (dk : Nat) (hK : 2 ≤ dk) {g : MT} {h h0 : CT} {this : Nat} {p1 : Int32} {p2 : UInt64} {r0 : Int32} (hf : pX13_becomes g h this p1 p2 = some (r0, h0)) : Ctr G dk yX13_becomes cX13_becomes 4 (some .int) [va_rf (some this), .int p1, .double p2] g h (some (.int r0)) g h0 := by
  refine Ctr.ofZ (lv := [(0, va_rf (some this)), (1, .int p1), (2, .double p2)]) (by decide +kernel) (by simp [cat_i, cat_l, cat_d, cat_rf]) rfl fun X Z => ?_
  unfold pX13_becomes at hf
  obtain ⟨t0, hf⟩ := tg_i hf
  refine J_aload_n Z.1 0 dX13_becomes_0 rfl rfl ?_
  refine J_get (v := va_rf (hR h this 20)) Z.1 dX13_becomes_1 fl_X13_34 t0 rfl ?_
  refine J_tr (fun r1 er1 => ?_)
  replace hf := lt_i hf r1 er1
  refine J_iload_n Z.1 1 dX13_becomes_4 rfl rfl ?_
  refine J_dload_n Z.1 2 dX13_becomes_5 rfl rfl ?_
  obtain ⟨a1, rfl, hf⟩ := nn_i hf
  obtain ⟨t2, hf⟩ := tg_i hf
  obtain ⟨i3, hf⟩ := ix_i hf
  refine J_dastore Z.1 dX13_becomes_6 t2 i3 ?_
  refine J_th (fun h4 eh4 => ?_)
  replace hf := lt_i hf h4 eh4
  refine J_aload_n Z.1 0 dX13_becomes_7 rfl rfl ?_
  refine J_dload_n Z.1 2 dX13_becomes_8 rfl rfl ?_
  obtain ⟨x7, h5, q6, hf⟩ := bd2_i hf
  refine J_callV (ci := 11) (as := [.double p2]) (rest := []) (sy := [.int x7]) Z.1 dX13_becomes_9 cw_X13_291 (pX13_tells_ok G (dk - 1) (by omega) q6) rfl rfl t0 (zG Z) rfl (by decide) (zF Z (by omega)) (zO Z (by omega) (by decide)) (zM _) Z.2.1 Z.2.1 rfl rfl ?_
  cases hf
  exact J_iret Z.1 Z.2.2.2.2.2 dX13_becomes_12
theorem dX13_there_0 : decode cX13_there 0 = .ok (.aload_n 0, 1) := by decide +kernel
theorem dX13_there_1 : decode cX13_there 1 = .ok (.getfield 31, 3) := by decide +kernel
theorem dX13_there_4 : decode cX13_there 4 = .ok (.iconst 4, 1) := by decide +kernel
theorem dX13_there_5 : decode cX13_there 5 = .ok (.iaload, 1) := by decide +kernel
theorem dX13_there_6 : decode cX13_there 6 = .ok (.iload_n 1, 1) := by decide +kernel
theorem dX13_there_7 : decode cX13_there 7 = .ok (.invokestatic 287, 3) := by decide +kernel
theorem dX13_there_10 : decode cX13_there 10 = .ok (.ifCond .eq 4, 3) := by decide +kernel
theorem dX13_there_13 : decode cX13_there 13 = .ok (.return_, 1) := by decide +kernel
theorem dX13_there_14 : decode cX13_there 14 = .ok (.aload_n 0, 1) := by decide +kernel
theorem dX13_there_15 : decode cX13_there 15 = .ok (.getfield 31, 3) := by decide +kernel
theorem dX13_there_18 : decode cX13_there 18 = .ok (.iconst 4, 1) := by decide +kernel
theorem dX13_there_19 : decode cX13_there 19 = .ok (.dup2, 1) := by decide +kernel
theorem dX13_there_20 : decode cX13_there 20 = .ok (.iaload, 1) := by decide +kernel
theorem dX13_there_21 : decode cX13_there 21 = .ok (.iconst 1, 1) := by decide +kernel
theorem dX13_there_22 : decode cX13_there 22 = .ok (.iload_n 1, 1) := by decide +kernel
theorem dX13_there_23 : decode cX13_there 23 = .ok (.ishl, 1) := by decide +kernel
theorem dX13_there_24 : decode cX13_there 24 = .ok (.ior, 1) := by decide +kernel
theorem dX13_there_25 : decode cX13_there 25 = .ok (.iastore, 1) := by decide +kernel
theorem dX13_there_26 : decode cX13_there 26 = .ok (.iconst 0, 1) := by decide +kernel
theorem dX13_there_27 : decode cX13_there 27 = .ok (.istore_n 2, 1) := by decide +kernel
theorem dX13_there_28 : decode cX13_there 28 = .ok (.iload_n 2, 1) := by decide +kernel
theorem dX13_there_29 : decode cX13_there 29 = .ok (.bipush 16, 2) := by decide +kernel
theorem dX13_there_31 : decode cX13_there 31 = .ok (.if_icmp .ge 21, 3) := by decide +kernel
theorem dX13_there_34 : decode cX13_there 34 = .ok (.aload_n 0, 1) := by decide +kernel
theorem dX13_there_35 : decode cX13_there 35 = .ok (.getfield 34, 3) := by decide +kernel
theorem dX13_there_38 : decode cX13_there 38 = .ok (.bipush 16, 2) := by decide +kernel
theorem dX13_there_40 : decode cX13_there 40 = .ok (.iload_n 1, 1) := by decide +kernel
theorem dX13_there_41 : decode cX13_there 41 = .ok (.imul, 1) := by decide +kernel
theorem dX13_there_42 : decode cX13_there 42 = .ok (.iload_n 2, 1) := by decide +kernel
theorem dX13_there_43 : decode cX13_there 43 = .ok (.iadd, 1) := by decide +kernel
theorem dX13_there_44 : decode cX13_there 44 = .ok (.dconst 0, 1) := by decide +kernel
theorem dX13_there_45 : decode cX13_there 45 = .ok (.dastore, 1) := by decide +kernel
theorem dX13_there_46 : decode cX13_there 46 = .ok (.iinc 2 1, 3) := by decide +kernel
theorem dX13_there_49 : decode cX13_there 49 = .ok (.goto (-21), 3) := by decide +kernel
theorem dX13_there_52 : decode cX13_there 52 = .ok (.return_, 1) := by decide +kernel
def pX13_there_b28 (g : MT) (this : Nat) (p1 : Int32) (k28 : Int32 → CT → Option CT) (l2 : Int32) (h : CT) : Option CT := if 16 ≤ l2 then some h else lt (hR h this 20) fun r2 => (nn r2 fun a2 => (tg g a2 22 (ix (gL g a2) ((16 * p1) + l2) (lt (sD h a2 (Int32.toNatClampNeg ((16 * p1) + l2)) 0) fun h5 => (lt (l2 + 1) fun x6 => (k28 x6 h5))))))
set_option maxRecDepth 10000 in
set_option maxHeartbeats 4000000 in
theorem pX13_there_b28_ok {X : Cx} {G : Gx} {dk : Nat} {g : MT} {h0 : CT} {this : Nat} {p1 : Int32} {k28 : Int32 → CT → Option CT} (Z : Zx X G cX13_there RX13 3 dk none none g h0) (hK : 1 ≤ dk) (t0 : gT g this = 12) (hk28 : ∀ (l2 : Int32) (h : CT), k28 l2 h = some h0 → J X g h 28 [(0, va_rf (some this)), (1, .int p1), (2, .int l2)] []) (l2 : Int32) (h : CT) (hf : pX13_there_b28 g this p1 k28 l2 h = some h0) : J X g h 28 [(0, va_rf (some this)), (1, .int p1), (2, .int l2)] [] := by
  unfold pX13_there_b28 at hf
  refine J_iload_n Z.1 2 dX13_there_28 rfl rfl ?_
  refine J_bipush Z.1 (v := 16) (by decide) dX13_there_29 ?_
  refine J_icmp_ge Z.1 52 dX13_there_31 (by decide) (fun c1 => ?_) (fun c1 => ?_)
  · rw [if_pos c1] at hf
    cases hf
    exact J_vret Z.1 Z.2.2.2.2.2 dX13_there_52
  · rw [if_neg c1] at hf
    refine J_aload_n Z.1 0 dX13_there_34 rfl rfl ?_
    refine J_get (v := va_rf (hR h this 20)) Z.1 dX13_there_35 fl_X13_34 t0 rfl ?_
    refine J_tr (fun r2 er2 => ?_)
    replace hf := lt_i hf r2 er2
    refine J_bipush Z.1 (v := 16) (by decide) dX13_there_38 ?_
    refine J_iload_n Z.1 1 dX13_there_40 rfl rfl ?_
    refine J_imul Z.1 dX13_there_41 ?_
    refine J_iload_n Z.1 2 dX13_there_42 rfl rfl ?_
    refine J_iadd Z.1 dX13_there_43 ?_
    refine J_dconst0 Z.1 dX13_there_44 ?_
    obtain ⟨a2, rfl, hf⟩ := nn_i hf
    obtain ⟨t3, hf⟩ := tg_i hf
    obtain ⟨i4, hf⟩ := ix_i hf
    refine J_dastore Z.1 dX13_there_45 t3 i4 ?_
    refine J_th (fun h5 eh5 => ?_)
    replace hf := lt_i hf h5 eh5
    refine J_iinc Z.1 (v := 1) (lv2 := [(2, .int (l2 + 1)), (0, va_rf (some this)), (1, .int p1)]) 2 dX13_there_46 rfl (by decide) (zL Z (by decide)) rfl ?_
    obtain ⟨x6, ex6⟩ : ∃ z, z = (l2 + 1) := ⟨_, rfl⟩
    replace hf := lt_i hf x6 ex6
    rw [← ex6]
    refine J_goto Z.1 28 dX13_there_49 (by decide) ?_
    refine J_lv [1, 2, 0] rfl ?_
    exact hk28 _ _ hf
def pX13_there_l28 (g : MT) (this : Nat) (p1 : Int32) : Nat → Int32 → CT → Option CT
  | 0, _, _ => none
  | n + 1, l2, h => pX13_there_b28 g this p1 (pX13_there_l28 g this p1 n) l2 h
theorem pX13_there_l28_ok {X : Cx} {G : Gx} {dk : Nat} {g : MT} {h0 : CT} {this : Nat} {p1 : Int32} (Z : Zx X G cX13_there RX13 3 dk none none g h0) (hK : 1 ≤ dk) (t0 : gT g this = 12) : ∀ (n : Nat) (l2 : Int32) (h : CT), pX13_there_l28 g this p1 n l2 h = some h0 → J X g h 28 [(0, va_rf (some this)), (1, .int p1), (2, .int l2)] [] := by
  intro n
  induction n with
  | zero => intro l2 h hf; cases hf
  | succ n ih => intro l2 h hf; exact pX13_there_b28_ok Z hK t0 ih l2 h hf
def pX13_there (g : MT) (h : CT) (this : Nat) (p1 : Int32) : Option CT := tg g this 12 (lt (hR h this 19) fun r1 => (nn r1 fun a1 => (tg g a1 20 (ix (gL g a1) 4 (if (pX13_has (hI h a1 (Int32.toNatClampNeg 4)) p1) = 0 then lt (hR h this 19) fun r5 => (nn r5 fun a5 => (tg g a5 20 (ix (gL g a5) 4 (ix (gL g a5) 4 (lt (sI h a5 (Int32.toNatClampNeg 4) ((hI h a5 (Int32.toNatClampNeg 4)) ||| ((1 : Int32) <<< (p1 &&& 31)))) fun h9 => (pX13_there_l28 g this p1  FUEL 0 h9)))))) else some h)))))
set_option maxRecDepth 10000 in
set_option maxHeartbeats 4000000 in
theorem pX13_there_ok (G : Gx) (dk : Nat) (hK : 1 ≤ dk) {g : MT} {h h0 : CT} {this : Nat} {p1 : Int32} (hf : pX13_there g h this p1 = some h0) : Ctr G dk yX13_there cX13_there 3 none [va_rf (some this), .int p1] g h none g h0 := by
  refine Ctr.ofZ (lv := [(0, va_rf (some this)), (1, .int p1)]) (by decide +kernel) (by simp [cat_i, cat_l, cat_d, cat_rf]) rfl fun X Z => ?_
  unfold pX13_there at hf
  obtain ⟨t0, hf⟩ := tg_i hf
  refine J_aload_n Z.1 0 dX13_there_0 rfl rfl ?_
  refine J_get (v := va_rf (hR h this 19)) Z.1 dX13_there_1 fl_X13_31 t0 rfl ?_
  refine J_tr (fun r1 er1 => ?_)
  replace hf := lt_i hf r1 er1
  refine J_iconst Z.1 (v := 4) (by decide) dX13_there_4 ?_
  obtain ⟨a1, rfl, hf⟩ := nn_i hf
  obtain ⟨t2, hf⟩ := tg_i hf
  obtain ⟨i3, hf⟩ := ix_i hf
  refine J_iaload Z.1 dX13_there_5 t2 i3 ?_
  refine J_iload_n Z.1 1 dX13_there_6 rfl rfl ?_
  refine J_callS (as := [.int (hI h a1 (Int32.toNatClampNeg 4)), .int p1]) (rest := []) (sy := [.int (pX13_has (hI h a1 (Int32.toNatClampNeg 4)) p1)]) Z.1 dX13_there_7 cw_X13_287 (pX13_has_ok G (dk - 1) (by omega) g h (hI h a1 (Int32.toNatClampNeg 4)) p1) (zG Z) rfl (by decide) (zF Z (by omega)) (zO Z (by omega) (by decide)) (zM _) Z.2.1 Z.2.1 rfl rfl ?_
  refine J_if_eq Z.1 14 dX13_there_10 (by decide) (fun c4 => ?_) (fun c4 => ?_)
  · rw [if_pos c4] at hf
    refine J_aload_n Z.1 0 dX13_there_14 rfl rfl ?_
    refine J_get (v := va_rf (hR h this 19)) Z.1 dX13_there_15 fl_X13_31 t0 rfl ?_
    refine J_tr (fun r5 er5 => ?_)
    replace hf := lt_i hf r5 er5
    refine J_iconst Z.1 (v := 4) (by decide) dX13_there_18 ?_
    refine J_dup2 Z.1 dX13_there_19 (by simp [cat_i, cat_l, cat_d, cat_rf]) (by simp [cat_i, cat_l, cat_d, cat_rf]) ?_
    obtain ⟨a5, rfl, hf⟩ := nn_i hf
    obtain ⟨t6, hf⟩ := tg_i hf
    obtain ⟨i7, hf⟩ := ix_i hf
    refine J_iaload Z.1 dX13_there_20 t6 i7 ?_
    refine J_iconst Z.1 (v := 1) (by decide) dX13_there_21 ?_
    refine J_iload_n Z.1 1 dX13_there_22 rfl rfl ?_
    refine J_ishl Z.1 dX13_there_23 ?_
    refine J_ior Z.1 dX13_there_24 ?_
    obtain ⟨i8, hf⟩ := ix_i hf
    refine J_iastore Z.1 dX13_there_25 t6 i8 ?_
    refine J_th (fun h9 eh9 => ?_)
    replace hf := lt_i hf h9 eh9
    refine J_iconst Z.1 (v := 0) (by decide) dX13_there_26 ?_
    refine J_istore_n Z.1 (lv2 := [(2, .int 0), (0, va_rf (some this)), (1, .int p1)]) dX13_there_27 rfl (zL Z (by decide)) rfl ?_
    refine J_lv [1, 2, 0] rfl ?_
    exact pX13_there_l28_ok Z hK t0  FUEL _ _ hf
  · rw [if_neg c4] at hf
    cases hf
    exact J_vret Z.1 Z.2.2.2.2.2 dX13_there_13
theorem dX13_put_0 : decode cX13_put 0 = .ok (.aload_n 0, 1) := by decide +kernel
theorem dX13_put_1 : decode cX13_put 1 = .ok (.iconst 0, 1) := by decide +kernel
theorem dX13_put_2 : decode cX13_put 2 = .ok (.putfield 71, 3) := by decide +kernel
theorem dX13_put_5 : decode cX13_put 5 = .ok (.aload_n 0, 1) := by decide +kernel
theorem dX13_put_6 : decode cX13_put 6 = .ok (.iconst 0, 1) := by decide +kernel
theorem dX13_put_7 : decode cX13_put 7 = .ok (.putfield 74, 3) := by decide +kernel
theorem dX13_put_10 : decode cX13_put 10 = .ok (.iload_n 1, 1) := by decide +kernel
theorem dX13_put_11 : decode cX13_put 11 = .ok (.invokestatic 281, 3) := by decide +kernel
theorem dX13_put_14 : decode cX13_put 14 = .ok (.ifCond .eq 10, 3) := by decide +kernel
theorem dX13_put_17 : decode cX13_put 17 = .ok (.iload_n 2, 1) := by decide +kernel
theorem dX13_put_18 : decode cX13_put 18 = .ok (.invokestatic 284, 3) := by decide +kernel
theorem dX13_put_21 : decode cX13_put 21 = .ok (.ifCond .ne 9, 3) := by decide +kernel
theorem dX13_put_24 : decode cX13_put 24 = .ok (.aload_n 0, 1) := by decide +kernel
theorem dX13_put_25 : decode cX13_put 25 = .ok (.iconst 2, 1) := by decide +kernel
theorem dX13_put_26 : decode cX13_put 26 = .ok (.invokevirtual 268, 3) := by decide +kernel
theorem dX13_put_29 : decode cX13_put 29 = .ok (.ireturn, 1) := by decide +kernel
theorem dX13_put_30 : decode cX13_put 30 = .ok (.lload_n 3, 1) := by decide +kernel
theorem dX13_put_31 : decode cX13_put 31 = .ok (.iload 5, 2) := by decide +kernel
theorem dX13_put_33 : decode cX13_put 33 = .ok (.invokestatic 300, 3) := by decide +kernel
theorem dX13_put_36 : decode cX13_put 36 = .ok (.ifCond .ne 9, 3) := by decide +kernel
theorem dX13_put_39 : decode cX13_put 39 = .ok (.aload_n 0, 1) := by decide +kernel
theorem dX13_put_40 : decode cX13_put 40 = .ok (.iconst 5, 1) := by decide +kernel
theorem dX13_put_41 : decode cX13_put 41 = .ok (.invokevirtual 268, 3) := by decide +kernel
theorem dX13_put_44 : decode cX13_put 44 = .ok (.ireturn, 1) := by decide +kernel
theorem dX13_put_45 : decode cX13_put 45 = .ok (.aload_n 0, 1) := by decide +kernel
theorem dX13_put_46 : decode cX13_put 46 = .ok (.iload_n 1, 1) := by decide +kernel
theorem dX13_put_47 : decode cX13_put 47 = .ok (.invokevirtual 304, 3) := by decide +kernel
theorem dX13_put_50 : decode cX13_put 50 = .ok (.aload_n 0, 1) := by decide +kernel
theorem dX13_put_51 : decode cX13_put 51 = .ok (.bipush 16, 2) := by decide +kernel
theorem dX13_put_53 : decode cX13_put 53 = .ok (.iload_n 1, 1) := by decide +kernel
theorem dX13_put_54 : decode cX13_put 54 = .ok (.imul, 1) := by decide +kernel
theorem dX13_put_55 : decode cX13_put 55 = .ok (.iload_n 2, 1) := by decide +kernel
theorem dX13_put_56 : decode cX13_put 56 = .ok (.iadd, 1) := by decide +kernel
theorem dX13_put_57 : decode cX13_put 57 = .ok (.lload_n 3, 1) := by decide +kernel
theorem dX13_put_58 : decode cX13_put 58 = .ok (.iload 5, 2) := by decide +kernel
theorem dX13_put_60 : decode cX13_put 60 = .ok (.invokestatic 307, 3) := by decide +kernel
theorem dX13_put_63 : decode cX13_put 63 = .ok (.invokevirtual 311, 3) := by decide +kernel
theorem dX13_put_66 : decode cX13_put 66 = .ok (.ireturn, 1) := by decide +kernel
def pX13_put_b24 (g : MT) (this : Nat) (p1 : Int32) (p2 : Int32) (p3 : Int64) (p5 : Int32) (h : CT) : Option ((Int32) × CT) := bd2 (pX13_refuse g h this 2) fun x3 h1 => (some (x3, h1))
set_option maxRecDepth 10000 in
set_option maxHeartbeats 4000000 in
theorem pX13_put_b24_ok {X : Cx} {G : Gx} {dk : Nat} {g : MT} {r0 : Int32} {h0 : CT} {this : Nat} {p1 : Int32} {p2 : Int32} {p3 : Int64} {p5 : Int32} (Z : Zx X G cX13_put RX13 6 dk (some .int) (some (.int r0)) g h0) (hK : 3 ≤ dk) (t0 : gT g this = 12) (h : CT) (hf : pX13_put_b24 g this p1 p2 p3 p5 h = some (r0, h0)) : J X g h 24 [(0, va_rf (some this))] [] := by
  unfold pX13_put_b24 at hf
  refine J_aload_n Z.1 0 dX13_put_24 rfl rfl ?_
  refine J_iconst Z.1 (v := 2) (by decide) dX13_put_25 ?_
  obtain ⟨x3, h1, q2, hf⟩ := bd2_i hf
  refine J_callV (ci := 11) (as := [.int 2]) (rest := []) (sy := [.int x3]) Z.1 dX13_put_26 cw_X13_268 (pX13_refuse_ok G (dk - 1) (by omega) q2) rfl rfl t0 (zG Z) rfl (by decide) (zF Z (by omega)) (zO Z (by omega) (by decide)) (zM _) Z.2.1 Z.2.1 rfl rfl ?_
  cases hf
  exact J_iret Z.1 Z.2.2.2.2.2 dX13_put_29
def pX13_put (g : MT) (h : CT) (this : Nat) (p1 : Int32) (p2 : Int32) (p3 : Int64) (p5 : Int32) : Option ((Int32) × CT) := tg g this 12 (lt (sI h this 1 0) fun h1 => (lt (sI h1 this 0 0) fun h2 => (if (pX13_isRow p1) = 0 then pX13_put_b24 g this p1 p2 p3 p5  h2 else if (pX13_isElement p2) = 0 then pX13_put_b24 g this p1 p2 p3 p5  h2 else if (pX13_isNumber p3 p5) = 0 then bd2 (pX13_refuse g h2 this 5) fun x15 h13 => (some (x15, h13)) else bd (pX13_there g h2 this p1) fun h6 => (bd (pX13_madeOf g h6 p3 p5) fun x8 => (bd2 (pX13_becomes g h6 this ((16 * p1) + p2) x8) fun x12 h10 => (some (x12, h10)))))))
set_option maxRecDepth 10000 in
set_option maxHeartbeats 4000000 in
theorem pX13_put_ok (G : Gx) (dk : Nat) (hK : 3 ≤ dk) {g : MT} {h h0 : CT} {this : Nat} {p1 : Int32} {p2 : Int32} {p3 : Int64} {p5 : Int32} {r0 : Int32} (hf : pX13_put g h this p1 p2 p3 p5 = some (r0, h0)) : Ctr G dk yX13_put cX13_put 6 (some .int) [va_rf (some this), .int p1, .int p2, .long p3, .int p5] g h (some (.int r0)) g h0 := by
  refine Ctr.ofZ (lv := [(0, va_rf (some this)), (1, .int p1), (2, .int p2), (3, .long p3), (5, .int p5)]) (by decide +kernel) (by simp [cat_i, cat_l, cat_d, cat_rf]) rfl fun X Z => ?_
  unfold pX13_put at hf
  obtain ⟨t0, hf⟩ := tg_i hf
  refine J_aload_n Z.1 0 dX13_put_0 rfl rfl ?_
  refine J_iconst Z.1 (v := 0) (by decide) dX13_put_1 ?_
  refine J_putI Z.1 dX13_put_2 fl_X13_71 (fun q => by cases q) t0 rfl rfl (congrArg Value.int (hI_s _ _ _ _)) ?_
  refine J_th (fun h1 eh1 => ?_)
  replace hf := lt_i hf h1 eh1
  refine J_aload_n Z.1 0 dX13_put_5 rfl rfl ?_
  refine J_iconst Z.1 (v := 0) (by decide) dX13_put_6 ?_
  refine J_putI Z.1 dX13_put_7 fl_X13_74 (fun q => by cases q) t0 rfl rfl (congrArg Value.int (hI_s _ _ _ _)) ?_
  refine J_th (fun h2 eh2 => ?_)
  replace hf := lt_i hf h2 eh2
  refine J_iload_n Z.1 1 dX13_put_10 rfl rfl ?_
  refine J_callS (as := [.int p1]) (rest := []) (sy := [.int (pX13_isRow p1)]) Z.1 dX13_put_11 cw_X13_281 (pX13_isRow_ok G (dk - 1) (by omega) g h2 p1) (zG Z) rfl (by decide) (zF Z (by omega)) (zO Z (by omega) (by decide)) (zM _) Z.2.1 Z.2.1 rfl rfl ?_
  refine J_if_eq Z.1 24 dX13_put_14 (by decide) (fun c3 => ?_) (fun c3 => ?_)
  · rw [if_pos c3] at hf
    refine J_lv [0] rfl ?_
    exact pX13_put_b24_ok Z hK t0  _ hf
  · rw [if_neg c3] at hf
    refine J_iload_n Z.1 2 dX13_put_17 rfl rfl ?_
    refine J_callS (as := [.int p2]) (rest := []) (sy := [.int (pX13_isElement p2)]) Z.1 dX13_put_18 cw_X13_284 (pX13_isElement_ok G (dk - 1) (by omega) g h2 p2) (zG Z) rfl (by decide) (zF Z (by omega)) (zO Z (by omega) (by decide)) (zM _) Z.2.1 Z.2.1 rfl rfl ?_
    refine J_if_ne Z.1 30 dX13_put_21 (by decide) (fun c4 => ?_) (fun c4 => ?_)
    · rw [if_neg c4] at hf
      refine J_lload_n Z.1 3 dX13_put_30 rfl rfl ?_
      refine J_iload Z.1 4 dX13_put_31 rfl ?_
      refine J_callS (as := [.long p3, .int p5]) (rest := []) (sy := [.int (pX13_isNumber p3 p5)]) Z.1 dX13_put_33 cw_X13_300 (pX13_isNumber_ok G (dk - 1) (by omega) g h2 p3 p5) (zG Z) rfl (by decide) (zF Z (by omega)) (zO Z (by omega) (by decide)) (zM _) Z.2.1 Z.2.1 rfl rfl ?_
      refine J_if_ne Z.1 45 dX13_put_36 (by decide) (fun c5 => ?_) (fun c5 => ?_)
      · rw [if_neg c5] at hf
        refine J_aload_n Z.1 0 dX13_put_45 rfl rfl ?_
        refine J_iload_n Z.1 1 dX13_put_46 rfl rfl ?_
        obtain ⟨h6, q7, hf⟩ := bd_i hf
        refine J_callV (ci := 11) (as := [.int p1]) (rest := []) (sy := []) Z.1 dX13_put_47 cw_X13_304 (pX13_there_ok G (dk - 1) (by omega) q7) rfl rfl t0 (zG Z) rfl (by decide) (zF Z (by omega)) (zO Z (by omega) (by decide)) (zM _) Z.2.1 Z.2.1 rfl rfl ?_
        refine J_aload_n Z.1 0 dX13_put_50 rfl rfl ?_
        refine J_bipush Z.1 (v := 16) (by decide) dX13_put_51 ?_
        refine J_iload_n Z.1 1 dX13_put_53 rfl rfl ?_
        refine J_imul Z.1 dX13_put_54 ?_
        refine J_iload_n Z.1 2 dX13_put_55 rfl rfl ?_
        refine J_iadd Z.1 dX13_put_56 ?_
        refine J_lload_n Z.1 3 dX13_put_57 rfl rfl ?_
        refine J_iload Z.1 4 dX13_put_58 rfl ?_
        obtain ⟨x8, q9, hf⟩ := bd_i hf
        refine J_callS (as := [.long p3, .int p5]) (rest := [.int ((16 * p1) + p2), va_rf (some this)]) (sy := [.double x8, .int ((16 * p1) + p2), va_rf (some this)]) Z.1 dX13_put_60 cw_X13_307 (pX13_madeOf_ok G (dk - 1) (by omega) q9) (zG Z) rfl (by simp [cat_i, cat_l, cat_d, cat_rf]) (zF Z (by omega)) (zO Z (by omega) (by decide)) (zM _) Z.2.1 Z.2.1 rfl rfl ?_
        obtain ⟨x12, h10, q11, hf⟩ := bd2_i hf
        refine J_callV (ci := 11) (as := [.int ((16 * p1) + p2), .double x8]) (rest := []) (sy := [.int x12]) Z.1 dX13_put_63 cw_X13_311 (pX13_becomes_ok G (dk - 1) (by omega) q11) rfl rfl t0 (zG Z) rfl (by decide) (zF Z (by omega)) (zO Z (by omega) (by decide)) (zM _) Z.2.1 Z.2.1 rfl rfl ?_
        cases hf
        exact J_iret Z.1 Z.2.2.2.2.2 dX13_put_66
      · rw [if_pos c5] at hf
        refine J_aload_n Z.1 0 dX13_put_39 rfl rfl ?_
        refine J_iconst Z.1 (v := 5) (by decide) dX13_put_40 ?_
        obtain ⟨x15, h13, q14, hf⟩ := bd2_i hf
        refine J_callV (ci := 11) (as := [.int 5]) (rest := []) (sy := [.int x15]) Z.1 dX13_put_41 cw_X13_268 (pX13_refuse_ok G (dk - 1) (by omega) q14) rfl rfl t0 (zG Z) rfl (by decide) (zF Z (by omega)) (zO Z (by omega) (by decide)) (zM _) Z.2.1 Z.2.1 rfl rfl ?_
        cases hf
        exact J_iret Z.1 Z.2.2.2.2.2 dX13_put_44
    · rw [if_pos c4] at hf
      refine J_lv [0] rfl ?_
      exact pX13_put_b24_ok Z hK t0  _ hf
theorem dX13_give_0 : decode cX13_give 0 = .ok (.aload_n 0, 1) := by decide +kernel
theorem dX13_give_1 : decode cX13_give 1 = .ok (.iconst 0, 1) := by decide +kernel
theorem dX13_give_2 : decode cX13_give 2 = .ok (.putfield 71, 3) := by decide +kernel
theorem dX13_give_5 : decode cX13_give 5 = .ok (.aload_n 0, 1) := by decide +kernel
theorem dX13_give_6 : decode cX13_give 6 = .ok (.iconst 0, 1) := by decide +kernel
theorem dX13_give_7 : decode cX13_give 7 = .ok (.putfield 74, 3) := by decide +kernel
theorem dX13_give_10 : decode cX13_give 10 = .ok (.iload_n 1, 1) := by decide +kernel
theorem dX13_give_11 : decode cX13_give 11 = .ok (.invokestatic 294, 3) := by decide +kernel
theorem dX13_give_14 : decode cX13_give 14 = .ok (.ifCond .ne 9, 3) := by decide +kernel
theorem dX13_give_17 : decode cX13_give 17 = .ok (.aload_n 0, 1) := by decide +kernel
theorem dX13_give_18 : decode cX13_give 18 = .ok (.iconst 2, 1) := by decide +kernel
theorem dX13_give_19 : decode cX13_give 19 = .ok (.invokevirtual 268, 3) := by decide +kernel
theorem dX13_give_22 : decode cX13_give 22 = .ok (.ireturn, 1) := by decide +kernel
theorem dX13_give_23 : decode cX13_give 23 = .ok (.lload_n 2, 1) := by decide +kernel
theorem dX13_give_24 : decode cX13_give 24 = .ok (.iload 4, 2) := by decide +kernel
theorem dX13_give_26 : decode cX13_give 26 = .ok (.invokestatic 300, 3) := by decide +kernel
theorem dX13_give_29 : decode cX13_give 29 = .ok (.ifCond .eq 20, 3) := by decide +kernel
theorem dX13_give_32 : decode cX13_give 32 = .ok (.aload_n 0, 1) := by decide +kernel
theorem dX13_give_33 : decode cX13_give 33 = .ok (.bipush 96, 2) := by decide +kernel
theorem dX13_give_35 : decode cX13_give 35 = .ok (.iload_n 1, 1) := by decide +kernel
theorem dX13_give_36 : decode cX13_give 36 = .ok (.iadd, 1) := by decide +kernel
theorem dX13_give_37 : decode cX13_give 37 = .ok (.lload_n 2, 1) := by decide +kernel
theorem dX13_give_38 : decode cX13_give 38 = .ok (.iload 4, 2) := by decide +kernel
theorem dX13_give_40 : decode cX13_give 40 = .ok (.invokestatic 307, 3) := by decide +kernel
theorem dX13_give_43 : decode cX13_give 43 = .ok (.invokevirtual 311, 3) := by decide +kernel
theorem dX13_give_46 : decode cX13_give 46 = .ok (.goto 8, 3) := by decide +kernel
theorem dX13_give_49 : decode cX13_give 49 = .ok (.aload_n 0, 1) := by decide +kernel
theorem dX13_give_50 : decode cX13_give 50 = .ok (.iconst 5, 1) := by decide +kernel
theorem dX13_give_51 : decode cX13_give 51 = .ok (.invokevirtual 268, 3) := by decide +kernel
theorem dX13_give_54 : decode cX13_give 54 = .ok (.ireturn, 1) := by decide +kernel
def pX13_give (g : MT) (h : CT) (this : Nat) (p1 : Int32) (p2 : Int64) (p4 : Int32) : Option ((Int32) × CT) := tg g this 12 (lt (sI h this 1 0) fun h1 => (lt (sI h1 this 0 0) fun h2 => (if (pX13_isScalar p1) = 0 then bd2 (pX13_refuse g h2 this 2) fun x15 h13 => (some (x15, h13)) else if (pX13_isNumber p2 p4) = 0 then bd2 (pX13_refuse g h2 this 5) fun x7 h5 => (some (x7, h5)) else bd (pX13_madeOf g h2 p2 p4) fun x8 => (bd2 (pX13_becomes g h2 this (96 + p1) x8) fun x12 h10 => (some (x12, h10))))))
set_option maxRecDepth 10000 in
set_option maxHeartbeats 4000000 in
theorem pX13_give_ok (G : Gx) (dk : Nat) (hK : 3 ≤ dk) {g : MT} {h h0 : CT} {this : Nat} {p1 : Int32} {p2 : Int64} {p4 : Int32} {r0 : Int32} (hf : pX13_give g h this p1 p2 p4 = some (r0, h0)) : Ctr G dk yX13_give cX13_give 5 (some .int) [va_rf (some this), .int p1, .long p2, .int p4] g h (some (.int r0)) g h0 := by
  refine Ctr.ofZ (lv := [(0, va_rf (some this)), (1, .int p1), (2, .long p2), (4, .int p4)]) (by decide +kernel) (by simp [cat_i, cat_l, cat_d, cat_rf]) rfl fun X Z => ?_
  unfold pX13_give at hf
  obtain ⟨t0, hf⟩ := tg_i hf
  refine J_aload_n Z.1 0 dX13_give_0 rfl rfl ?_
  refine J_iconst Z.1 (v := 0) (by decide) dX13_give_1 ?_
  refine J_putI Z.1 dX13_give_2 fl_X13_71 (fun q => by cases q) t0 rfl rfl (congrArg Value.int (hI_s _ _ _ _)) ?_
  refine J_th (fun h1 eh1 => ?_)
  replace hf := lt_i hf h1 eh1
  refine J_aload_n Z.1 0 dX13_give_5 rfl rfl ?_
  refine J_iconst Z.1 (v := 0) (by decide) dX13_give_6 ?_
  refine J_putI Z.1 dX13_give_7 fl_X13_74 (fun q => by cases q) t0 rfl rfl (congrArg Value.int (hI_s _ _ _ _)) ?_
  refine J_th (fun h2 eh2 => ?_)
  replace hf := lt_i hf h2 eh2
  refine J_iload_n Z.1 1 dX13_give_10 rfl rfl ?_
  refine J_callS (as := [.int p1]) (rest := []) (sy := [.int (pX13_isScalar p1)]) Z.1 dX13_give_11 cw_X13_294 (pX13_isScalar_ok G (dk - 1) (by omega) g h2 p1) (zG Z) rfl (by decide) (zF Z (by omega)) (zO Z (by omega) (by decide)) (zM _) Z.2.1 Z.2.1 rfl rfl ?_
  refine J_if_ne Z.1 23 dX13_give_14 (by decide) (fun c3 => ?_) (fun c3 => ?_)
  · rw [if_neg c3] at hf
    refine J_lload_n Z.1 2 dX13_give_23 rfl rfl ?_
    refine J_iload Z.1 3 dX13_give_24 rfl ?_
    refine J_callS (as := [.long p2, .int p4]) (rest := []) (sy := [.int (pX13_isNumber p2 p4)]) Z.1 dX13_give_26 cw_X13_300 (pX13_isNumber_ok G (dk - 1) (by omega) g h2 p2 p4) (zG Z) rfl (by decide) (zF Z (by omega)) (zO Z (by omega) (by decide)) (zM _) Z.2.1 Z.2.1 rfl rfl ?_
    refine J_if_eq Z.1 49 dX13_give_29 (by decide) (fun c4 => ?_) (fun c4 => ?_)
    · rw [if_pos c4] at hf
      refine J_aload_n Z.1 0 dX13_give_49 rfl rfl ?_
      refine J_iconst Z.1 (v := 5) (by decide) dX13_give_50 ?_
      obtain ⟨x7, h5, q6, hf⟩ := bd2_i hf
      refine J_callV (ci := 11) (as := [.int 5]) (rest := []) (sy := [.int x7]) Z.1 dX13_give_51 cw_X13_268 (pX13_refuse_ok G (dk - 1) (by omega) q6) rfl rfl t0 (zG Z) rfl (by decide) (zF Z (by omega)) (zO Z (by omega) (by decide)) (zM _) Z.2.1 Z.2.1 rfl rfl ?_
      cases hf
      exact J_iret Z.1 Z.2.2.2.2.2 dX13_give_54
    · rw [if_neg c4] at hf
      refine J_aload_n Z.1 0 dX13_give_32 rfl rfl ?_
      refine J_bipush Z.1 (v := 96) (by decide) dX13_give_33 ?_
      refine J_iload_n Z.1 1 dX13_give_35 rfl rfl ?_
      refine J_iadd Z.1 dX13_give_36 ?_
      refine J_lload_n Z.1 2 dX13_give_37 rfl rfl ?_
      refine J_iload Z.1 3 dX13_give_38 rfl ?_
      obtain ⟨x8, q9, hf⟩ := bd_i hf
      refine J_callS (as := [.long p2, .int p4]) (rest := [.int (96 + p1), va_rf (some this)]) (sy := [.double x8, .int (96 + p1), va_rf (some this)]) Z.1 dX13_give_40 cw_X13_307 (pX13_madeOf_ok G (dk - 1) (by omega) q9) (zG Z) rfl (by simp [cat_i, cat_l, cat_d, cat_rf]) (zF Z (by omega)) (zO Z (by omega) (by decide)) (zM _) Z.2.1 Z.2.1 rfl rfl ?_
      obtain ⟨x12, h10, q11, hf⟩ := bd2_i hf
      refine J_callV (ci := 11) (as := [.int (96 + p1), .double x8]) (rest := []) (sy := [.int x12]) Z.1 dX13_give_43 cw_X13_311 (pX13_becomes_ok G (dk - 1) (by omega) q11) rfl rfl t0 (zG Z) rfl (by decide) (zF Z (by omega)) (zO Z (by omega) (by decide)) (zM _) Z.2.1 Z.2.1 rfl rfl ?_
      refine J_goto Z.1 54 dX13_give_46 (by decide) ?_
      cases hf
      exact J_iret Z.1 Z.2.2.2.2.2 dX13_give_54
  · rw [if_pos c3] at hf
    refine J_aload_n Z.1 0 dX13_give_17 rfl rfl ?_
    refine J_iconst Z.1 (v := 2) (by decide) dX13_give_18 ?_
    obtain ⟨x15, h13, q14, hf⟩ := bd2_i hf
    refine J_callV (ci := 11) (as := [.int 2]) (rest := []) (sy := [.int x15]) Z.1 dX13_give_19 cw_X13_268 (pX13_refuse_ok G (dk - 1) (by omega) q14) rfl rfl t0 (zG Z) rfl (by decide) (zF Z (by omega)) (zO Z (by omega) (by decide)) (zM _) Z.2.1 Z.2.1 rfl rfl ?_
    cases hf
    exact J_iret Z.1 Z.2.2.2.2.2 dX13_give_22
theorem dX13_poke_0 : decode cX13_poke 0 = .ok (.aload_n 0, 1) := by decide +kernel
theorem dX13_poke_1 : decode cX13_poke 1 = .ok (.iconst 0, 1) := by decide +kernel
theorem dX13_poke_2 : decode cX13_poke 2 = .ok (.putfield 71, 3) := by decide +kernel
theorem dX13_poke_5 : decode cX13_poke 5 = .ok (.aload_n 0, 1) := by decide +kernel
theorem dX13_poke_6 : decode cX13_poke 6 = .ok (.iconst 0, 1) := by decide +kernel
theorem dX13_poke_7 : decode cX13_poke 7 = .ok (.putfield 74, 3) := by decide +kernel
theorem dX13_poke_10 : decode cX13_poke 10 = .ok (.iload_n 1, 1) := by decide +kernel
theorem dX13_poke_11 : decode cX13_poke 11 = .ok (.invokestatic 297, 3) := by decide +kernel
theorem dX13_poke_14 : decode cX13_poke 14 = .ok (.ifCond .ne 9, 3) := by decide +kernel
theorem dX13_poke_17 : decode cX13_poke 17 = .ok (.aload_n 0, 1) := by decide +kernel
theorem dX13_poke_18 : decode cX13_poke 18 = .ok (.iconst 2, 1) := by decide +kernel
theorem dX13_poke_19 : decode cX13_poke 19 = .ok (.invokevirtual 268, 3) := by decide +kernel
theorem dX13_poke_22 : decode cX13_poke 22 = .ok (.ireturn, 1) := by decide +kernel
theorem dX13_poke_23 : decode cX13_poke 23 = .ok (.lload_n 2, 1) := by decide +kernel
theorem dX13_poke_24 : decode cX13_poke 24 = .ok (.iload 4, 2) := by decide +kernel
theorem dX13_poke_26 : decode cX13_poke 26 = .ok (.invokestatic 300, 3) := by decide +kernel
theorem dX13_poke_29 : decode cX13_poke 29 = .ok (.ifCond .eq 20, 3) := by decide +kernel
theorem dX13_poke_32 : decode cX13_poke 32 = .ok (.aload_n 0, 1) := by decide +kernel
theorem dX13_poke_33 : decode cX13_poke 33 = .ok (.bipush 100, 2) := by decide +kernel
theorem dX13_poke_35 : decode cX13_poke 35 = .ok (.iload_n 1, 1) := by decide +kernel
theorem dX13_poke_36 : decode cX13_poke 36 = .ok (.iadd, 1) := by decide +kernel
theorem dX13_poke_37 : decode cX13_poke 37 = .ok (.lload_n 2, 1) := by decide +kernel
theorem dX13_poke_38 : decode cX13_poke 38 = .ok (.iload 4, 2) := by decide +kernel
theorem dX13_poke_40 : decode cX13_poke 40 = .ok (.invokestatic 307, 3) := by decide +kernel
theorem dX13_poke_43 : decode cX13_poke 43 = .ok (.invokevirtual 311, 3) := by decide +kernel
theorem dX13_poke_46 : decode cX13_poke 46 = .ok (.goto 8, 3) := by decide +kernel
theorem dX13_poke_49 : decode cX13_poke 49 = .ok (.aload_n 0, 1) := by decide +kernel
theorem dX13_poke_50 : decode cX13_poke 50 = .ok (.iconst 5, 1) := by decide +kernel
theorem dX13_poke_51 : decode cX13_poke 51 = .ok (.invokevirtual 268, 3) := by decide +kernel
theorem dX13_poke_54 : decode cX13_poke 54 = .ok (.ireturn, 1) := by decide +kernel
def pX13_poke (g : MT) (h : CT) (this : Nat) (p1 : Int32) (p2 : Int64) (p4 : Int32) : Option ((Int32) × CT) := tg g this 12 (lt (sI h this 1 0) fun h1 => (lt (sI h1 this 0 0) fun h2 => (if (pX13_isWordAt p1) = 0 then bd2 (pX13_refuse g h2 this 2) fun x15 h13 => (some (x15, h13)) else if (pX13_isNumber p2 p4) = 0 then bd2 (pX13_refuse g h2 this 5) fun x7 h5 => (some (x7, h5)) else bd (pX13_madeOf g h2 p2 p4) fun x8 => (bd2 (pX13_becomes g h2 this (100 + p1) x8) fun x12 h10 => (some (x12, h10))))))
set_option maxRecDepth 10000 in
set_option maxHeartbeats 4000000 in
theorem pX13_poke_ok (G : Gx) (dk : Nat) (hK : 3 ≤ dk) {g : MT} {h h0 : CT} {this : Nat} {p1 : Int32} {p2 : Int64} {p4 : Int32} {r0 : Int32} (hf : pX13_poke g h this p1 p2 p4 = some (r0, h0)) : Ctr G dk yX13_poke cX13_poke 5 (some .int) [va_rf (some this), .int p1, .long p2, .int p4] g h (some (.int r0)) g h0 := by
  refine Ctr.ofZ (lv := [(0, va_rf (some this)), (1, .int p1), (2, .long p2), (4, .int p4)]) (by decide +kernel) (by simp [cat_i, cat_l, cat_d, cat_rf]) rfl fun X Z => ?_
  unfold pX13_poke at hf
  obtain ⟨t0, hf⟩ := tg_i hf
  refine J_aload_n Z.1 0 dX13_poke_0 rfl rfl ?_
  refine J_iconst Z.1 (v := 0) (by decide) dX13_poke_1 ?_
  refine J_putI Z.1 dX13_poke_2 fl_X13_71 (fun q => by cases q) t0 rfl rfl (congrArg Value.int (hI_s _ _ _ _)) ?_
  refine J_th (fun h1 eh1 => ?_)
  replace hf := lt_i hf h1 eh1
  refine J_aload_n Z.1 0 dX13_poke_5 rfl rfl ?_
  refine J_iconst Z.1 (v := 0) (by decide) dX13_poke_6 ?_
  refine J_putI Z.1 dX13_poke_7 fl_X13_74 (fun q => by cases q) t0 rfl rfl (congrArg Value.int (hI_s _ _ _ _)) ?_
  refine J_th (fun h2 eh2 => ?_)
  replace hf := lt_i hf h2 eh2
  refine J_iload_n Z.1 1 dX13_poke_10 rfl rfl ?_
  refine J_callS (as := [.int p1]) (rest := []) (sy := [.int (pX13_isWordAt p1)]) Z.1 dX13_poke_11 cw_X13_297 (pX13_isWordAt_ok G (dk - 1) (by omega) g h2 p1) (zG Z) rfl (by decide) (zF Z (by omega)) (zO Z (by omega) (by decide)) (zM _) Z.2.1 Z.2.1 rfl rfl ?_
  refine J_if_ne Z.1 23 dX13_poke_14 (by decide) (fun c3 => ?_) (fun c3 => ?_)
  · rw [if_neg c3] at hf
    refine J_lload_n Z.1 2 dX13_poke_23 rfl rfl ?_
    refine J_iload Z.1 3 dX13_poke_24 rfl ?_
    refine J_callS (as := [.long p2, .int p4]) (rest := []) (sy := [.int (pX13_isNumber p2 p4)]) Z.1 dX13_poke_26 cw_X13_300 (pX13_isNumber_ok G (dk - 1) (by omega) g h2 p2 p4) (zG Z) rfl (by decide) (zF Z (by omega)) (zO Z (by omega) (by decide)) (zM _) Z.2.1 Z.2.1 rfl rfl ?_
    refine J_if_eq Z.1 49 dX13_poke_29 (by decide) (fun c4 => ?_) (fun c4 => ?_)
    · rw [if_pos c4] at hf
      refine J_aload_n Z.1 0 dX13_poke_49 rfl rfl ?_
      refine J_iconst Z.1 (v := 5) (by decide) dX13_poke_50 ?_
      obtain ⟨x7, h5, q6, hf⟩ := bd2_i hf
      refine J_callV (ci := 11) (as := [.int 5]) (rest := []) (sy := [.int x7]) Z.1 dX13_poke_51 cw_X13_268 (pX13_refuse_ok G (dk - 1) (by omega) q6) rfl rfl t0 (zG Z) rfl (by decide) (zF Z (by omega)) (zO Z (by omega) (by decide)) (zM _) Z.2.1 Z.2.1 rfl rfl ?_
      cases hf
      exact J_iret Z.1 Z.2.2.2.2.2 dX13_poke_54
    · rw [if_neg c4] at hf
      refine J_aload_n Z.1 0 dX13_poke_32 rfl rfl ?_
      refine J_bipush Z.1 (v := 100) (by decide) dX13_poke_33 ?_
      refine J_iload_n Z.1 1 dX13_poke_35 rfl rfl ?_
      refine J_iadd Z.1 dX13_poke_36 ?_
      refine J_lload_n Z.1 2 dX13_poke_37 rfl rfl ?_
      refine J_iload Z.1 3 dX13_poke_38 rfl ?_
      obtain ⟨x8, q9, hf⟩ := bd_i hf
      refine J_callS (as := [.long p2, .int p4]) (rest := [.int (100 + p1), va_rf (some this)]) (sy := [.double x8, .int (100 + p1), va_rf (some this)]) Z.1 dX13_poke_40 cw_X13_307 (pX13_madeOf_ok G (dk - 1) (by omega) q9) (zG Z) rfl (by simp [cat_i, cat_l, cat_d, cat_rf]) (zF Z (by omega)) (zO Z (by omega) (by decide)) (zM _) Z.2.1 Z.2.1 rfl rfl ?_
      obtain ⟨x12, h10, q11, hf⟩ := bd2_i hf
      refine J_callV (ci := 11) (as := [.int (100 + p1), .double x8]) (rest := []) (sy := [.int x12]) Z.1 dX13_poke_43 cw_X13_311 (pX13_becomes_ok G (dk - 1) (by omega) q11) rfl rfl t0 (zG Z) rfl (by decide) (zF Z (by omega)) (zO Z (by omega) (by decide)) (zM _) Z.2.1 Z.2.1 rfl rfl ?_
      refine J_goto Z.1 54 dX13_poke_46 (by decide) ?_
      cases hf
      exact J_iret Z.1 Z.2.2.2.2.2 dX13_poke_54
  · rw [if_pos c3] at hf
    refine J_aload_n Z.1 0 dX13_poke_17 rfl rfl ?_
    refine J_iconst Z.1 (v := 2) (by decide) dX13_poke_18 ?_
    obtain ⟨x15, h13, q14, hf⟩ := bd2_i hf
    refine J_callV (ci := 11) (as := [.int 2]) (rest := []) (sy := [.int x15]) Z.1 dX13_poke_19 cw_X13_268 (pX13_refuse_ok G (dk - 1) (by omega) q14) rfl rfl t0 (zG Z) rfl (by decide) (zF Z (by omega)) (zO Z (by omega) (by decide)) (zM _) Z.2.1 Z.2.1 rfl rfl ?_
    cases hf
    exact J_iret Z.1 Z.2.2.2.2.2 dX13_poke_22
theorem dX13_strange_0 : decode cX13_strange 0 = .ok (.aload_n 0, 1) := by decide +kernel
theorem dX13_strange_1 : decode cX13_strange 1 = .ok (.iconst 0, 1) := by decide +kernel
theorem dX13_strange_2 : decode cX13_strange 2 = .ok (.putfield 71, 3) := by decide +kernel
theorem dX13_strange_5 : decode cX13_strange 5 = .ok (.aload_n 0, 1) := by decide +kernel
theorem dX13_strange_6 : decode cX13_strange 6 = .ok (.iconst 0, 1) := by decide +kernel
theorem dX13_strange_7 : decode cX13_strange 7 = .ok (.putfield 74, 3) := by decide +kernel
theorem dX13_strange_10 : decode cX13_strange 10 = .ok (.iload_n 1, 1) := by decide +kernel
theorem dX13_strange_11 : decode cX13_strange 11 = .ok (.invokestatic 297, 3) := by decide +kernel
theorem dX13_strange_14 : decode cX13_strange 14 = .ok (.ifCond .ne 9, 3) := by decide +kernel
theorem dX13_strange_17 : decode cX13_strange 17 = .ok (.aload_n 0, 1) := by decide +kernel
theorem dX13_strange_18 : decode cX13_strange 18 = .ok (.iconst 2, 1) := by decide +kernel
theorem dX13_strange_19 : decode cX13_strange 19 = .ok (.invokevirtual 268, 3) := by decide +kernel
theorem dX13_strange_22 : decode cX13_strange 22 = .ok (.ireturn, 1) := by decide +kernel
theorem dX13_strange_23 : decode cX13_strange 23 = .ok (.iload_n 2, 1) := by decide +kernel
theorem dX13_strange_24 : decode cX13_strange 24 = .ok (.i2l, 1) := by decide +kernel
theorem dX13_strange_25 : decode cX13_strange 25 = .ok (.lconst 1, 1) := by decide +kernel
theorem dX13_strange_26 : decode cX13_strange 26 = .ok (.ldc2_w 275, 3) := by decide +kernel
theorem dX13_strange_29 : decode cX13_strange 29 = .ok (.invokestatic 104, 3) := by decide +kernel
theorem dX13_strange_32 : decode cX13_strange 32 = .ok (.ifCond .ne 9, 3) := by decide +kernel
theorem dX13_strange_35 : decode cX13_strange 35 = .ok (.aload_n 0, 1) := by decide +kernel
theorem dX13_strange_36 : decode cX13_strange 36 = .ok (.iconst 5, 1) := by decide +kernel
theorem dX13_strange_37 : decode cX13_strange 37 = .ok (.invokevirtual 268, 3) := by decide +kernel
theorem dX13_strange_40 : decode cX13_strange 40 = .ok (.ireturn, 1) := by decide +kernel
theorem dX13_strange_41 : decode cX13_strange 41 = .ok (.aload_n 0, 1) := by decide +kernel
theorem dX13_strange_42 : decode cX13_strange 42 = .ok (.getfield 34, 3) := by decide +kernel
theorem dX13_strange_45 : decode cX13_strange 45 = .ok (.bipush 100, 2) := by decide +kernel
theorem dX13_strange_47 : decode cX13_strange 47 = .ok (.iload_n 1, 1) := by decide +kernel
theorem dX13_strange_48 : decode cX13_strange 48 = .ok (.iadd, 1) := by decide +kernel
theorem dX13_strange_49 : decode cX13_strange 49 = .ok (.daload, 1) := by decide +kernel
theorem dX13_strange_50 : decode cX13_strange 50 = .ok (.invokestatic 108, 3) := by decide +kernel
theorem dX13_strange_53 : decode cX13_strange 53 = .ok (.istore_n 3, 1) := by decide +kernel
theorem dX13_strange_54 : decode cX13_strange 54 = .ok (.aload_n 0, 1) := by decide +kernel
theorem dX13_strange_55 : decode cX13_strange 55 = .ok (.getfield 34, 3) := by decide +kernel
theorem dX13_strange_58 : decode cX13_strange 58 = .ok (.bipush 100, 2) := by decide +kernel
theorem dX13_strange_60 : decode cX13_strange 60 = .ok (.iload_n 1, 1) := by decide +kernel
theorem dX13_strange_61 : decode cX13_strange 61 = .ok (.iadd, 1) := by decide +kernel
theorem dX13_strange_62 : decode cX13_strange 62 = .ok (.iload_n 2, 1) := by decide +kernel
theorem dX13_strange_63 : decode cX13_strange 63 = .ok (.invokestatic 315, 3) := by decide +kernel
theorem dX13_strange_66 : decode cX13_strange 66 = .ok (.dastore, 1) := by decide +kernel
theorem dX13_strange_67 : decode cX13_strange 67 = .ok (.iload_n 3, 1) := by decide +kernel
theorem dX13_strange_68 : decode cX13_strange 68 = .ok (.ireturn, 1) := by decide +kernel
def pX13_strange (g : MT) (h : CT) (this : Nat) (p1 : Int32) (p2 : Int32) : Option ((Int32) × CT) := tg g this 12 (lt (sI h this 1 0) fun h1 => (lt (sI h1 this 0 0) fun h2 => (if (pX13_isWordAt p1) = 0 then bd2 (pX13_refuse g h2 this 2) fun x18 h16 => (some (x18, h16)) else if (pX13_isIn (Int32.toInt64 p2) 1 5) = 0 then bd2 (pX13_refuse g h2 this 5) fun x15 h13 => (some (x15, h13)) else lt (hR h2 this 20) fun r5 => (nn r5 fun a5 => (tg g a5 22 (ix (gL g a5) (100 + p1) (lt (pX13_kindOf (hD h2 a5 (Int32.toNatClampNeg (100 + p1)))) fun x8 => (lt (hR h2 this 20) fun r9 => (nn r9 fun a9 => (tg g a9 22 (ix (gL g a9) (100 + p1) (lt (sD h2 a9 (Int32.toNatClampNeg (100 + p1)) (pX13_strangeOf p2)) fun h12 => (some (x8, h12))))))))))))))
set_option maxRecDepth 10000 in
set_option maxHeartbeats 4000000 in
theorem pX13_strange_ok (G : Gx) (dk : Nat) (hK : 2 ≤ dk) {g : MT} {h h0 : CT} {this : Nat} {p1 : Int32} {p2 : Int32} {r0 : Int32} (hf : pX13_strange g h this p1 p2 = some (r0, h0)) : Ctr G dk yX13_strange cX13_strange 4 (some .int) [va_rf (some this), .int p1, .int p2] g h (some (.int r0)) g h0 := by
  refine Ctr.ofZ (lv := [(0, va_rf (some this)), (1, .int p1), (2, .int p2)]) (by decide +kernel) (by simp [cat_i, cat_l, cat_d, cat_rf]) rfl fun X Z => ?_
  unfold pX13_strange at hf
  obtain ⟨t0, hf⟩ := tg_i hf
  refine J_aload_n Z.1 0 dX13_strange_0 rfl rfl ?_
  refine J_iconst Z.1 (v := 0) (by decide) dX13_strange_1 ?_
  refine J_putI Z.1 dX13_strange_2 fl_X13_71 (fun q => by cases q) t0 rfl rfl (congrArg Value.int (hI_s _ _ _ _)) ?_
  refine J_th (fun h1 eh1 => ?_)
  replace hf := lt_i hf h1 eh1
  refine J_aload_n Z.1 0 dX13_strange_5 rfl rfl ?_
  refine J_iconst Z.1 (v := 0) (by decide) dX13_strange_6 ?_
  refine J_putI Z.1 dX13_strange_7 fl_X13_74 (fun q => by cases q) t0 rfl rfl (congrArg Value.int (hI_s _ _ _ _)) ?_
  refine J_th (fun h2 eh2 => ?_)
  replace hf := lt_i hf h2 eh2
  refine J_iload_n Z.1 1 dX13_strange_10 rfl rfl ?_
  refine J_callS (as := [.int p1]) (rest := []) (sy := [.int (pX13_isWordAt p1)]) Z.1 dX13_strange_11 cw_X13_297 (pX13_isWordAt_ok G (dk - 1) (by omega) g h2 p1) (zG Z) rfl (by decide) (zF Z (by omega)) (zO Z (by omega) (by decide)) (zM _) Z.2.1 Z.2.1 rfl rfl ?_
  refine J_if_ne Z.1 23 dX13_strange_14 (by decide) (fun c3 => ?_) (fun c3 => ?_)
  · rw [if_neg c3] at hf
    refine J_iload_n Z.1 2 dX13_strange_23 rfl rfl ?_
    refine J_i2l Z.1 dX13_strange_24 ?_
    refine J_lconst Z.1 (v := 1) (by decide) dX13_strange_25 ?_
    refine J_ldc2 Z.1 q_1749 dX13_strange_26 ?_
    refine J_callS (as := [.long (Int32.toInt64 p2), .long 1, .long 5]) (rest := []) (sy := [.int (pX13_isIn (Int32.toInt64 p2) 1 5)]) Z.1 dX13_strange_29 cw_X13_104 (pX13_isIn_ok G (dk - 1) (by omega) g h2 (Int32.toInt64 p2) 1 5) (zG Z) rfl (by decide) (zF Z (by omega)) (zO Z (by omega) (by decide)) (zM _) Z.2.1 Z.2.1 rfl rfl ?_
    refine J_if_ne Z.1 41 dX13_strange_32 (by decide) (fun c4 => ?_) (fun c4 => ?_)
    · rw [if_neg c4] at hf
      refine J_aload_n Z.1 0 dX13_strange_41 rfl rfl ?_
      refine J_get (v := va_rf (hR h2 this 20)) Z.1 dX13_strange_42 fl_X13_34 t0 rfl ?_
      refine J_tr (fun r5 er5 => ?_)
      replace hf := lt_i hf r5 er5
      refine J_bipush Z.1 (v := 100) (by decide) dX13_strange_45 ?_
      refine J_iload_n Z.1 1 dX13_strange_47 rfl rfl ?_
      refine J_iadd Z.1 dX13_strange_48 ?_
      obtain ⟨a5, rfl, hf⟩ := nn_i hf
      obtain ⟨t6, hf⟩ := tg_i hf
      obtain ⟨i7, hf⟩ := ix_i hf
      refine J_daload Z.1 dX13_strange_49 t6 i7 ?_
      refine J_callS (as := [.double (hD h2 a5 (Int32.toNatClampNeg (100 + p1)))]) (rest := []) (sy := [.int (pX13_kindOf (hD h2 a5 (Int32.toNatClampNeg (100 + p1))))]) Z.1 dX13_strange_50 cw_X13_108 (pX13_kindOf_ok G (dk - 1) (by omega) g h2 (hD h2 a5 (Int32.toNatClampNeg (100 + p1)))) (zG Z) rfl (by decide) (zF Z (by omega)) (zO Z (by omega) (by decide)) (zM _) Z.2.1 Z.2.1 rfl rfl ?_
      refine J_ti (fun x8 ex8 => ?_)
      replace hf := lt_i hf x8 ex8
      refine J_istore_n Z.1 (lv2 := [(3, .int x8), (0, va_rf (some this)), (1, .int p1), (2, .int p2)]) dX13_strange_53 rfl (zL Z (by decide)) rfl ?_
      refine J_aload_n Z.1 1 dX13_strange_54 rfl rfl ?_
      refine J_get (v := va_rf (hR h2 this 20)) Z.1 dX13_strange_55 fl_X13_34 t0 rfl ?_
      refine J_tr (fun r9 er9 => ?_)
      replace hf := lt_i hf r9 er9
      refine J_bipush Z.1 (v := 100) (by decide) dX13_strange_58 ?_
      refine J_iload_n Z.1 2 dX13_strange_60 rfl rfl ?_
      refine J_iadd Z.1 dX13_strange_61 ?_
      refine J_iload_n Z.1 3 dX13_strange_62 rfl rfl ?_
      refine J_callS (as := [.int p2]) (rest := [.int (100 + p1), va_rf r9]) (sy := [.double (pX13_strangeOf p2), .int (100 + p1), va_rf r9]) Z.1 dX13_strange_63 cw_X13_315 (pX13_strangeOf_ok G (dk - 1) (by omega) g h2 p2) (zG Z) rfl (by simp [cat_i, cat_l, cat_d, cat_rf]) (zF Z (by omega)) (zO Z (by omega) (by decide)) (zM _) Z.2.1 Z.2.1 rfl rfl ?_
      obtain ⟨a9, rfl, hf⟩ := nn_i hf
      obtain ⟨t10, hf⟩ := tg_i hf
      obtain ⟨i11, hf⟩ := ix_i hf
      refine J_dastore Z.1 dX13_strange_66 t10 i11 ?_
      refine J_th (fun h12 eh12 => ?_)
      replace hf := lt_i hf h12 eh12
      refine J_iload_n Z.1 0 dX13_strange_67 rfl rfl ?_
      cases hf
      exact J_iret Z.1 Z.2.2.2.2.2 dX13_strange_68
    · rw [if_pos c4] at hf
      refine J_aload_n Z.1 0 dX13_strange_35 rfl rfl ?_
      refine J_iconst Z.1 (v := 5) (by decide) dX13_strange_36 ?_
      obtain ⟨x15, h13, q14, hf⟩ := bd2_i hf
      refine J_callV (ci := 11) (as := [.int 5]) (rest := []) (sy := [.int x15]) Z.1 dX13_strange_37 cw_X13_268 (pX13_refuse_ok G (dk - 1) (by omega) q14) rfl rfl t0 (zG Z) rfl (by decide) (zF Z (by omega)) (zO Z (by omega) (by decide)) (zM _) Z.2.1 Z.2.1 rfl rfl ?_
      cases hf
      exact J_iret Z.1 Z.2.2.2.2.2 dX13_strange_40
  · rw [if_pos c3] at hf
    refine J_aload_n Z.1 0 dX13_strange_17 rfl rfl ?_
    refine J_iconst Z.1 (v := 2) (by decide) dX13_strange_18 ?_
    obtain ⟨x18, h16, q17, hf⟩ := bd2_i hf
    refine J_callV (ci := 11) (as := [.int 2]) (rest := []) (sy := [.int x18]) Z.1 dX13_strange_19 cw_X13_268 (pX13_refuse_ok G (dk - 1) (by omega) q17) rfl rfl t0 (zG Z) rfl (by decide) (zF Z (by omega)) (zO Z (by omega) (by decide)) (zM _) Z.2.1 Z.2.1 rfl rfl ?_
    cases hf
    exact J_iret Z.1 Z.2.2.2.2.2 dX13_strange_22
theorem dX13_whyNotAll_0 : decode cX13_whyNotAll 0 = .ok (.aload_n 0, 1) := by decide +kernel
theorem dX13_whyNotAll_1 : decode cX13_whyNotAll 1 = .ok (.iload_n 2, 1) := by decide +kernel
theorem dX13_whyNotAll_2 : decode cX13_whyNotAll 2 = .ok (.invokevirtual 319, 3) := by decide +kernel
theorem dX13_whyNotAll_5 : decode cX13_whyNotAll 5 = .ok (.ifCond .ne 5, 3) := by decide +kernel
theorem dX13_whyNotAll_8 : decode cX13_whyNotAll 8 = .ok (.iconst 1, 1) := by decide +kernel
theorem dX13_whyNotAll_9 : decode cX13_whyNotAll 9 = .ok (.ireturn, 1) := by decide +kernel
theorem dX13_whyNotAll_10 : decode cX13_whyNotAll 10 = .ok (.iload_n 3, 1) := by decide +kernel
theorem dX13_whyNotAll_11 : decode cX13_whyNotAll 11 = .ok (.ifCond .le 24, 3) := by decide +kernel
theorem dX13_whyNotAll_14 : decode cX13_whyNotAll 14 = .ok (.iload_n 1, 1) := by decide +kernel
theorem dX13_whyNotAll_15 : decode cX13_whyNotAll 15 = .ok (.invokestatic 297, 3) := by decide +kernel
theorem dX13_whyNotAll_18 : decode cX13_whyNotAll 18 = .ok (.ifCond .eq 15, 3) := by decide +kernel
theorem dX13_whyNotAll_21 : decode cX13_whyNotAll 21 = .ok (.iload_n 1, 1) := by decide +kernel
theorem dX13_whyNotAll_22 : decode cX13_whyNotAll 22 = .ok (.i2l, 1) := by decide +kernel
theorem dX13_whyNotAll_23 : decode cX13_whyNotAll 23 = .ok (.iload_n 3, 1) := by decide +kernel
theorem dX13_whyNotAll_24 : decode cX13_whyNotAll 24 = .ok (.i2l, 1) := by decide +kernel
theorem dX13_whyNotAll_25 : decode cX13_whyNotAll 25 = .ok (.ladd, 1) := by decide +kernel
theorem dX13_whyNotAll_26 : decode cX13_whyNotAll 26 = .ok (.ldc2_w 322, 3) := by decide +kernel
theorem dX13_whyNotAll_29 : decode cX13_whyNotAll 29 = .ok (.lcmp, 1) := by decide +kernel
theorem dX13_whyNotAll_30 : decode cX13_whyNotAll 30 = .ok (.ifCond .le 5, 3) := by decide +kernel
theorem dX13_whyNotAll_33 : decode cX13_whyNotAll 33 = .ok (.iconst 2, 1) := by decide +kernel
theorem dX13_whyNotAll_34 : decode cX13_whyNotAll 34 = .ok (.ireturn, 1) := by decide +kernel
theorem dX13_whyNotAll_35 : decode cX13_whyNotAll 35 = .ok (.aload_n 0, 1) := by decide +kernel
theorem dX13_whyNotAll_36 : decode cX13_whyNotAll 36 = .ok (.getfield 13, 3) := by decide +kernel
theorem dX13_whyNotAll_39 : decode cX13_whyNotAll 39 = .ok (.iload_n 2, 1) := by decide +kernel
theorem dX13_whyNotAll_40 : decode cX13_whyNotAll 40 = .ok (.iaload, 1) := by decide +kernel
theorem dX13_whyNotAll_41 : decode cX13_whyNotAll 41 = .ok (.ifCond .ge 5, 3) := by decide +kernel
theorem dX13_whyNotAll_44 : decode cX13_whyNotAll 44 = .ok (.iconst 3, 1) := by decide +kernel
theorem dX13_whyNotAll_45 : decode cX13_whyNotAll 45 = .ok (.ireturn, 1) := by decide +kernel
theorem dX13_whyNotAll_46 : decode cX13_whyNotAll 46 = .ok (.aload_n 0, 1) := by decide +kernel
theorem dX13_whyNotAll_47 : decode cX13_whyNotAll 47 = .ok (.getfield 13, 3) := by decide +kernel
theorem dX13_whyNotAll_50 : decode cX13_whyNotAll 50 = .ok (.iload_n 2, 1) := by decide +kernel
theorem dX13_whyNotAll_51 : decode cX13_whyNotAll 51 = .ok (.iaload, 1) := by decide +kernel
theorem dX13_whyNotAll_52 : decode cX13_whyNotAll 52 = .ok (.iload_n 3, 1) := by decide +kernel
theorem dX13_whyNotAll_53 : decode cX13_whyNotAll 53 = .ok (.if_icmp .ge 5, 3) := by decide +kernel
theorem dX13_whyNotAll_56 : decode cX13_whyNotAll 56 = .ok (.iconst 4, 1) := by decide +kernel
theorem dX13_whyNotAll_57 : decode cX13_whyNotAll 57 = .ok (.ireturn, 1) := by decide +kernel
theorem dX13_whyNotAll_58 : decode cX13_whyNotAll 58 = .ok (.iload_n 3, 1) := by decide +kernel
theorem dX13_whyNotAll_59 : decode cX13_whyNotAll 59 = .ok (.i2l, 1) := by decide +kernel
theorem dX13_whyNotAll_60 : decode cX13_whyNotAll 60 = .ok (.lconst 0, 1) := by decide +kernel
theorem dX13_whyNotAll_61 : decode cX13_whyNotAll 61 = .ok (.ldc2_w 324, 3) := by decide +kernel
theorem dX13_whyNotAll_64 : decode cX13_whyNotAll 64 = .ok (.invokestatic 104, 3) := by decide +kernel
theorem dX13_whyNotAll_67 : decode cX13_whyNotAll 67 = .ok (.ifCond .eq 7, 3) := by decide +kernel
theorem dX13_whyNotAll_70 : decode cX13_whyNotAll 70 = .ok (.iconst 0, 1) := by decide +kernel
theorem dX13_whyNotAll_71 : decode cX13_whyNotAll 71 = .ok (.goto 4, 3) := by decide +kernel
theorem dX13_whyNotAll_74 : decode cX13_whyNotAll 74 = .ok (.iconst 5, 1) := by decide +kernel
theorem dX13_whyNotAll_75 : decode cX13_whyNotAll 75 = .ok (.ireturn, 1) := by decide +kernel
def pX13_whyNotAll_b35 (g : MT) (h : CT) (this : Nat) (p1 : Int32) (p2 : Int32) (p3 : Int32)  : Option Int32 := lt (hR h this 5) fun r1 => (nn r1 fun a1 => (tg g a1 20 (ix (gL g a1) p2 (if 0 ≤ (hI h a1 (Int32.toNatClampNeg p2)) then lt (hR h this 5) fun r5 => (nn r5 fun a5 => (tg g a5 20 (ix (gL g a5) p2 (if p3 ≤ (hI h a5 (Int32.toNatClampNeg p2)) then if (pX13_isIn (Int32.toInt64 p3) 0 60) = 0 then some 5 else some 0 else some 4)))) else some 3))))
set_option maxRecDepth 10000 in
set_option maxHeartbeats 4000000 in
theorem pX13_whyNotAll_b35_ok {X : Cx} {G : Gx} {dk : Nat} {g : MT} {r0 : Int32} {h : CT} {this : Nat} {p1 : Int32} {p2 : Int32} {p3 : Int32} (Z : Zx X G cX13_whyNotAll RX13 4 dk (some .int) (some (.int r0)) g h) (hK : 2 ≤ dk) (t0 : gT g this = 12)  (hf : pX13_whyNotAll_b35 g h this p1 p2 p3 = some r0) : J X g h 35 [(0, va_rf (some this)), (2, .int p2), (3, .int p3)] [] := by
  unfold pX13_whyNotAll_b35 at hf
  refine J_aload_n Z.1 0 dX13_whyNotAll_35 rfl rfl ?_
  refine J_get (v := va_rf (hR h this 5)) Z.1 dX13_whyNotAll_36 fl_X13_13 t0 rfl ?_
  refine J_tr (fun r1 er1 => ?_)
  replace hf := lt_i hf r1 er1
  refine J_iload_n Z.1 1 dX13_whyNotAll_39 rfl rfl ?_
  obtain ⟨a1, rfl, hf⟩ := nn_i hf
  obtain ⟨t2, hf⟩ := tg_i hf
  obtain ⟨i3, hf⟩ := ix_i hf
  refine J_iaload Z.1 dX13_whyNotAll_40 t2 i3 ?_
  refine J_if_ge Z.1 46 dX13_whyNotAll_41 (by decide) (fun c4 => ?_) (fun c4 => ?_)
  · rw [if_pos c4] at hf
    refine J_aload_n Z.1 0 dX13_whyNotAll_46 rfl rfl ?_
    refine J_get (v := va_rf (hR h this 5)) Z.1 dX13_whyNotAll_47 fl_X13_13 t0 rfl ?_
    refine J_tr (fun r5 er5 => ?_)
    replace hf := lt_i hf r5 er5
    refine J_iload_n Z.1 1 dX13_whyNotAll_50 rfl rfl ?_
    obtain ⟨a5, rfl, hf⟩ := nn_i hf
    obtain ⟨t6, hf⟩ := tg_i hf
    obtain ⟨i7, hf⟩ := ix_i hf
    refine J_iaload Z.1 dX13_whyNotAll_51 t6 i7 ?_
    refine J_iload_n Z.1 2 dX13_whyNotAll_52 rfl rfl ?_
    refine J_icmp_ge Z.1 58 dX13_whyNotAll_53 (by decide) (fun c8 => ?_) (fun c8 => ?_)
    · rw [if_pos c8] at hf
      refine J_iload_n Z.1 2 dX13_whyNotAll_58 rfl rfl ?_
      refine J_i2l Z.1 dX13_whyNotAll_59 ?_
      refine J_lconst Z.1 (v := 0) (by decide) dX13_whyNotAll_60 ?_
      refine J_ldc2 Z.1 q_1842 dX13_whyNotAll_61 ?_
      refine J_callS (as := [.long (Int32.toInt64 p3), .long 0, .long 60]) (rest := []) (sy := [.int (pX13_isIn (Int32.toInt64 p3) 0 60)]) Z.1 dX13_whyNotAll_64 cw_X13_104 (pX13_isIn_ok G (dk - 1) (by omega) g h (Int32.toInt64 p3) 0 60) (zG Z) rfl (by decide) (zF Z (by omega)) (zO Z (by omega) (by decide)) (zM _) Z.2.1 Z.2.1 rfl rfl ?_
      refine J_if_eq Z.1 74 dX13_whyNotAll_67 (by decide) (fun c9 => ?_) (fun c9 => ?_)
      · rw [if_pos c9] at hf
        refine J_iconst Z.1 (v := 5) (by decide) dX13_whyNotAll_74 ?_
        cases hf
        exact J_iret Z.1 Z.2.2.2.2.2 dX13_whyNotAll_75
      · rw [if_neg c9] at hf
        refine J_iconst Z.1 (v := 0) (by decide) dX13_whyNotAll_70 ?_
        refine J_goto Z.1 75 dX13_whyNotAll_71 (by decide) ?_
        cases hf
        exact J_iret Z.1 Z.2.2.2.2.2 dX13_whyNotAll_75
    · rw [if_neg c8] at hf
      refine J_iconst Z.1 (v := 4) (by decide) dX13_whyNotAll_56 ?_
      cases hf
      exact J_iret Z.1 Z.2.2.2.2.2 dX13_whyNotAll_57
  · rw [if_neg c4] at hf
    refine J_iconst Z.1 (v := 3) (by decide) dX13_whyNotAll_44 ?_
    cases hf
    exact J_iret Z.1 Z.2.2.2.2.2 dX13_whyNotAll_45
def pX13_whyNotAll (g : MT) (h : CT) (this : Nat) (p1 : Int32) (p2 : Int32) (p3 : Int32) : Option Int32 := tg g this 12 (if (pX13_isTray this p2) = 0 then some 1 else if p3 ≤ 0 then pX13_whyNotAll_b35 g h this p1 p2 p3   else if (pX13_isWordAt p1) = 0 then some 2 else if (lg_cmp ((Int32.toInt64 p1) + (Int32.toInt64 p3)) 64) ≤ 0 then pX13_whyNotAll_b35 g h this p1 p2 p3   else some 2)
set_option maxRecDepth 10000 in
set_option maxHeartbeats 4000000 in
theorem pX13_whyNotAll_ok (G : Gx) (dk : Nat) (hK : 2 ≤ dk) {g : MT} {h : CT} {this : Nat} {p1 : Int32} {p2 : Int32} {p3 : Int32} {r0 : Int32} (hf : pX13_whyNotAll g h this p1 p2 p3 = some r0) : Ctr G dk yX13_whyNotAll cX13_whyNotAll 4 (some .int) [va_rf (some this), .int p1, .int p2, .int p3] g h (some (.int r0)) g h := by
  refine Ctr.ofZ (lv := [(0, va_rf (some this)), (1, .int p1), (2, .int p2), (3, .int p3)]) (by decide +kernel) (by simp [cat_i, cat_l, cat_d, cat_rf]) rfl fun X Z => ?_
  unfold pX13_whyNotAll at hf
  obtain ⟨t0, hf⟩ := tg_i hf
  refine J_aload_n Z.1 0 dX13_whyNotAll_0 rfl rfl ?_
  refine J_iload_n Z.1 2 dX13_whyNotAll_1 rfl rfl ?_
  refine J_callV (ci := 11) (as := [.int p2]) (rest := []) (sy := [.int (pX13_isTray this p2)]) Z.1 dX13_whyNotAll_2 cw_X13_319 (pX13_isTray_ok G (dk - 1) (by omega) g h this p2) rfl rfl t0 (zG Z) rfl (by decide) (zF Z (by omega)) (zO Z (by omega) (by decide)) (zM _) Z.2.1 Z.2.1 rfl rfl ?_
  refine J_if_ne Z.1 10 dX13_whyNotAll_5 (by decide) (fun c1 => ?_) (fun c1 => ?_)
  · rw [if_neg c1] at hf
    refine J_iload_n Z.1 3 dX13_whyNotAll_10 rfl rfl ?_
    refine J_if_le Z.1 35 dX13_whyNotAll_11 (by decide) (fun c2 => ?_) (fun c2 => ?_)
    · rw [if_pos c2] at hf
      refine J_lv [0, 2, 3] rfl ?_
      exact pX13_whyNotAll_b35_ok Z hK t0   hf
    · rw [if_neg c2] at hf
      refine J_iload_n Z.1 1 dX13_whyNotAll_14 rfl rfl ?_
      refine J_callS (as := [.int p1]) (rest := []) (sy := [.int (pX13_isWordAt p1)]) Z.1 dX13_whyNotAll_15 cw_X13_297 (pX13_isWordAt_ok G (dk - 1) (by omega) g h p1) (zG Z) rfl (by decide) (zF Z (by omega)) (zO Z (by omega) (by decide)) (zM _) Z.2.1 Z.2.1 rfl rfl ?_
      refine J_if_eq Z.1 33 dX13_whyNotAll_18 (by decide) (fun c3 => ?_) (fun c3 => ?_)
      · rw [if_pos c3] at hf
        refine J_iconst Z.1 (v := 2) (by decide) dX13_whyNotAll_33 ?_
        cases hf
        exact J_iret Z.1 Z.2.2.2.2.2 dX13_whyNotAll_34
      · rw [if_neg c3] at hf
        refine J_iload_n Z.1 1 dX13_whyNotAll_21 rfl rfl ?_
        refine J_i2l Z.1 dX13_whyNotAll_22 ?_
        refine J_iload_n Z.1 3 dX13_whyNotAll_23 rfl rfl ?_
        refine J_i2l Z.1 dX13_whyNotAll_24 ?_
        refine J_ladd Z.1 dX13_whyNotAll_25 ?_
        refine J_ldc2 Z.1 q_1841 dX13_whyNotAll_26 ?_
        refine J_lcmp Z.1 dX13_whyNotAll_29 ?_
        refine J_if_le Z.1 35 dX13_whyNotAll_30 (by decide) (fun c4 => ?_) (fun c4 => ?_)
        · rw [if_pos c4] at hf
          refine J_lv [0, 2, 3] rfl ?_
          exact pX13_whyNotAll_b35_ok Z hK t0   hf
        · rw [if_neg c4] at hf
          refine J_iconst Z.1 (v := 2) (by decide) dX13_whyNotAll_33 ?_
          cases hf
          exact J_iret Z.1 Z.2.2.2.2.2 dX13_whyNotAll_34
  · rw [if_pos c1] at hf
    refine J_iconst Z.1 (v := 1) (by decide) dX13_whyNotAll_8 ?_
    cases hf
    exact J_iret Z.1 Z.2.2.2.2.2 dX13_whyNotAll_9
theorem dX13_pokeAll_0 : decode cX13_pokeAll 0 = .ok (.aload_n 0, 1) := by decide +kernel
theorem dX13_pokeAll_1 : decode cX13_pokeAll 1 = .ok (.iconst 0, 1) := by decide +kernel
theorem dX13_pokeAll_2 : decode cX13_pokeAll 2 = .ok (.putfield 71, 3) := by decide +kernel
theorem dX13_pokeAll_5 : decode cX13_pokeAll 5 = .ok (.aload_n 0, 1) := by decide +kernel
theorem dX13_pokeAll_6 : decode cX13_pokeAll 6 = .ok (.aload_n 0, 1) := by decide +kernel
theorem dX13_pokeAll_7 : decode cX13_pokeAll 7 = .ok (.iload_n 1, 1) := by decide +kernel
theorem dX13_pokeAll_8 : decode cX13_pokeAll 8 = .ok (.iload_n 2, 1) := by decide +kernel
theorem dX13_pokeAll_9 : decode cX13_pokeAll 9 = .ok (.iload_n 3, 1) := by decide +kernel
theorem dX13_pokeAll_10 : decode cX13_pokeAll 10 = .ok (.invokevirtual 326, 3) := by decide +kernel
theorem dX13_pokeAll_13 : decode cX13_pokeAll 13 = .ok (.putfield 74, 3) := by decide +kernel
theorem dX13_pokeAll_16 : decode cX13_pokeAll 16 = .ok (.aload_n 0, 1) := by decide +kernel
theorem dX13_pokeAll_17 : decode cX13_pokeAll 17 = .ok (.getfield 74, 3) := by decide +kernel
theorem dX13_pokeAll_20 : decode cX13_pokeAll 20 = .ok (.ifCond .le 5, 3) := by decide +kernel
theorem dX13_pokeAll_23 : decode cX13_pokeAll 23 = .ok (.iconst (-1), 1) := by decide +kernel
theorem dX13_pokeAll_24 : decode cX13_pokeAll 24 = .ok (.ireturn, 1) := by decide +kernel
theorem dX13_pokeAll_25 : decode cX13_pokeAll 25 = .ok (.iconst 0, 1) := by decide +kernel
theorem dX13_pokeAll_26 : decode cX13_pokeAll 26 = .ok (.istore 4, 2) := by decide +kernel
theorem dX13_pokeAll_28 : decode cX13_pokeAll 28 = .ok (.iload 4, 2) := by decide +kernel
theorem dX13_pokeAll_30 : decode cX13_pokeAll 30 = .ok (.iload_n 3, 1) := by decide +kernel
theorem dX13_pokeAll_31 : decode cX13_pokeAll 31 = .ok (.if_icmp .ge 29, 3) := by decide +kernel
theorem dX13_pokeAll_34 : decode cX13_pokeAll 34 = .ok (.aload_n 0, 1) := by decide +kernel
theorem dX13_pokeAll_35 : decode cX13_pokeAll 35 = .ok (.getfield 34, 3) := by decide +kernel
theorem dX13_pokeAll_38 : decode cX13_pokeAll 38 = .ok (.bipush 100, 2) := by decide +kernel
theorem dX13_pokeAll_40 : decode cX13_pokeAll 40 = .ok (.iload_n 1, 1) := by decide +kernel
theorem dX13_pokeAll_41 : decode cX13_pokeAll 41 = .ok (.iadd, 1) := by decide +kernel
theorem dX13_pokeAll_42 : decode cX13_pokeAll 42 = .ok (.iload 4, 2) := by decide +kernel
theorem dX13_pokeAll_44 : decode cX13_pokeAll 44 = .ok (.iadd, 1) := by decide +kernel
theorem dX13_pokeAll_45 : decode cX13_pokeAll 45 = .ok (.aload_n 0, 1) := by decide +kernel
theorem dX13_pokeAll_46 : decode cX13_pokeAll 46 = .ok (.iload_n 2, 1) := by decide +kernel
theorem dX13_pokeAll_47 : decode cX13_pokeAll 47 = .ok (.iload 4, 2) := by decide +kernel
theorem dX13_pokeAll_49 : decode cX13_pokeAll 49 = .ok (.invokevirtual 330, 3) := by decide +kernel
theorem dX13_pokeAll_52 : decode cX13_pokeAll 52 = .ok (.l2d, 1) := by decide +kernel
theorem dX13_pokeAll_53 : decode cX13_pokeAll 53 = .ok (.dastore, 1) := by decide +kernel
theorem dX13_pokeAll_54 : decode cX13_pokeAll 54 = .ok (.iinc 4 1, 3) := by decide +kernel
theorem dX13_pokeAll_57 : decode cX13_pokeAll 57 = .ok (.goto (-29), 3) := by decide +kernel
theorem dX13_pokeAll_60 : decode cX13_pokeAll 60 = .ok (.iload_n 3, 1) := by decide +kernel
theorem dX13_pokeAll_61 : decode cX13_pokeAll 61 = .ok (.ireturn, 1) := by decide +kernel
def pX13_pokeAll_b28 (g : MT) (this : Nat) (p1 : Int32) (p2 : Int32) (p3 : Int32) (k28 : Int32 → CT → Option ((Int32) × CT)) (l4 : Int32) (h : CT) : Option ((Int32) × CT) := if p3 ≤ l4 then some (p3, h) else lt (hR h this 20) fun r2 => (bd (pX13_numberOf g h this p2 l4) fun x3 => (nn r2 fun a2 => (tg g a2 22 (ix (gL g a2) ((100 + p1) + l4) (lt (sD h a2 (Int32.toNatClampNeg ((100 + p1) + l4)) (fl2d x3)) fun h7 => (lt (l4 + 1) fun x8 => (k28 x8 h7)))))))
set_option maxRecDepth 10000 in
set_option maxHeartbeats 4000000 in
theorem pX13_pokeAll_b28_ok {X : Cx} {G : Gx} {dk : Nat} {g : MT} {r0 : Int32} {h0 : CT} {this : Nat} {p1 : Int32} {p2 : Int32} {p3 : Int32} {k28 : Int32 → CT → Option ((Int32) × CT)} (Z : Zx X G cX13_pokeAll RX13 5 dk (some .int) (some (.int r0)) g h0) (hK : 3 ≤ dk) (t0 : gT g this = 12) (hk28 : ∀ (l4 : Int32) (h : CT), k28 l4 h = some (r0, h0) → J X g h 28 [(0, va_rf (some this)), (1, .int p1), (2, .int p2), (3, .int p3), (4, .int l4)] []) (l4 : Int32) (h : CT) (hf : pX13_pokeAll_b28 g this p1 p2 p3 k28 l4 h = some (r0, h0)) : J X g h 28 [(0, va_rf (some this)), (1, .int p1), (2, .int p2), (3, .int p3), (4, .int l4)] [] := by
  unfold pX13_pokeAll_b28 at hf
  refine J_iload Z.1 4 dX13_pokeAll_28 rfl ?_
  refine J_iload_n Z.1 3 dX13_pokeAll_30 rfl rfl ?_
  refine J_icmp_ge Z.1 60 dX13_pokeAll_31 (by decide) (fun c1 => ?_) (fun c1 => ?_)
  · rw [if_pos c1] at hf
    refine J_iload_n Z.1 3 dX13_pokeAll_60 rfl rfl ?_
    cases hf
    exact J_iret Z.1 Z.2.2.2.2.2 dX13_pokeAll_61
  · rw [if_neg c1] at hf
    refine J_aload_n Z.1 0 dX13_pokeAll_34 rfl rfl ?_
    refine J_get (v := va_rf (hR h this 20)) Z.1 dX13_pokeAll_35 fl_X13_34 t0 rfl ?_
    refine J_tr (fun r2 er2 => ?_)
    replace hf := lt_i hf r2 er2
    refine J_bipush Z.1 (v := 100) (by decide) dX13_pokeAll_38 ?_
    refine J_iload_n Z.1 1 dX13_pokeAll_40 rfl rfl ?_
    refine J_iadd Z.1 dX13_pokeAll_41 ?_
    refine J_iload Z.1 4 dX13_pokeAll_42 rfl ?_
    refine J_iadd Z.1 dX13_pokeAll_44 ?_
    refine J_aload_n Z.1 0 dX13_pokeAll_45 rfl rfl ?_
    refine J_iload_n Z.1 2 dX13_pokeAll_46 rfl rfl ?_
    refine J_iload Z.1 4 dX13_pokeAll_47 rfl ?_
    obtain ⟨x3, q4, hf⟩ := bd_i hf
    refine J_callV (ci := 11) (as := [.int p2, .int l4]) (rest := [.int ((100 + p1) + l4), va_rf r2]) (sy := [.long x3, .int ((100 + p1) + l4), va_rf r2]) Z.1 dX13_pokeAll_49 cw_X13_330 (pX13_numberOf_ok G (dk - 1) (by omega) q4) rfl rfl t0 (zG Z) rfl (by simp [cat_i, cat_l, cat_d, cat_rf]) (zF Z (by omega)) (zO Z (by omega) (by decide)) (zM _) Z.2.1 Z.2.1 rfl rfl ?_
    refine J_l2d Z.1 dX13_pokeAll_52 ?_
    obtain ⟨a2, rfl, hf⟩ := nn_i hf
    obtain ⟨t5, hf⟩ := tg_i hf
    obtain ⟨i6, hf⟩ := ix_i hf
    refine J_dastore Z.1 dX13_pokeAll_53 t5 i6 ?_
    refine J_th (fun h7 eh7 => ?_)
    replace hf := lt_i hf h7 eh7
    refine J_iinc Z.1 (v := 1) (lv2 := [(4, .int (l4 + 1)), (0, va_rf (some this)), (1, .int p1), (2, .int p2), (3, .int p3)]) 4 dX13_pokeAll_54 rfl (by decide) (zL Z (by decide)) rfl ?_
    obtain ⟨x8, ex8⟩ : ∃ z, z = (l4 + 1) := ⟨_, rfl⟩
    replace hf := lt_i hf x8 ex8
    rw [← ex8]
    refine J_goto Z.1 28 dX13_pokeAll_57 (by decide) ?_
    refine J_lv [1, 2, 3, 4, 0] rfl ?_
    exact hk28 _ _ hf
def pX13_pokeAll_l28 (g : MT) (this : Nat) (p1 : Int32) (p2 : Int32) (p3 : Int32) : Nat → Int32 → CT → Option ((Int32) × CT)
  | 0, _, _ => none
  | n + 1, l4, h => pX13_pokeAll_b28 g this p1 p2 p3 (pX13_pokeAll_l28 g this p1 p2 p3 n) l4 h
theorem pX13_pokeAll_l28_ok {X : Cx} {G : Gx} {dk : Nat} {g : MT} {r0 : Int32} {h0 : CT} {this : Nat} {p1 : Int32} {p2 : Int32} {p3 : Int32} (Z : Zx X G cX13_pokeAll RX13 5 dk (some .int) (some (.int r0)) g h0) (hK : 3 ≤ dk) (t0 : gT g this = 12) : ∀ (n : Nat) (l4 : Int32) (h : CT), pX13_pokeAll_l28 g this p1 p2 p3 n l4 h = some (r0, h0) → J X g h 28 [(0, va_rf (some this)), (1, .int p1), (2, .int p2), (3, .int p3), (4, .int l4)] [] := by
  intro n
  induction n with
  | zero => intro l4 h hf; cases hf
  | succ n ih => intro l4 h hf; exact pX13_pokeAll_b28_ok Z hK t0 ih l4 h hf
def pX13_pokeAll (g : MT) (h : CT) (this : Nat) (p1 : Int32) (p2 : Int32) (p3 : Int32) : Option ((Int32) × CT) := tg g this 12 (lt (sI h this 1 0) fun h1 => (bd (pX13_whyNotAll g h1 this p1 p2 p3) fun x2 => (lt (sI h1 this 0 x2) fun h4 => (if (hI h4 this 0) ≤ 0 then pX13_pokeAll_l28 g this p1 p2 p3  FUEL 0 h4 else some ((-1), h4)))))
set_option maxRecDepth 10000 in
set_option maxHeartbeats 4000000 in
theorem pX13_pokeAll_ok (G : Gx) (dk : Nat) (hK : 3 ≤ dk) {g : MT} {h h0 : CT} {this : Nat} {p1 : Int32} {p2 : Int32} {p3 : Int32} {r0 : Int32} (hf : pX13_pokeAll g h this p1 p2 p3 = some (r0, h0)) : Ctr G dk yX13_pokeAll cX13_pokeAll 5 (some .int) [va_rf (some this), .int p1, .int p2, .int p3] g h (some (.int r0)) g h0 := by
  refine Ctr.ofZ (lv := [(0, va_rf (some this)), (1, .int p1), (2, .int p2), (3, .int p3)]) (by decide +kernel) (by simp [cat_i, cat_l, cat_d, cat_rf]) rfl fun X Z => ?_
  unfold pX13_pokeAll at hf
  obtain ⟨t0, hf⟩ := tg_i hf
  refine J_aload_n Z.1 0 dX13_pokeAll_0 rfl rfl ?_
  refine J_iconst Z.1 (v := 0) (by decide) dX13_pokeAll_1 ?_
  refine J_putI Z.1 dX13_pokeAll_2 fl_X13_71 (fun q => by cases q) t0 rfl rfl (congrArg Value.int (hI_s _ _ _ _)) ?_
  refine J_th (fun h1 eh1 => ?_)
  replace hf := lt_i hf h1 eh1
  refine J_aload_n Z.1 0 dX13_pokeAll_5 rfl rfl ?_
  refine J_aload_n Z.1 0 dX13_pokeAll_6 rfl rfl ?_
  refine J_iload_n Z.1 1 dX13_pokeAll_7 rfl rfl ?_
  refine J_iload_n Z.1 2 dX13_pokeAll_8 rfl rfl ?_
  refine J_iload_n Z.1 3 dX13_pokeAll_9 rfl rfl ?_
  obtain ⟨x2, q3, hf⟩ := bd_i hf
  refine J_callV (ci := 11) (as := [.int p1, .int p2, .int p3]) (rest := [va_rf (some this)]) (sy := [.int x2, va_rf (some this)]) Z.1 dX13_pokeAll_10 cw_X13_326 (pX13_whyNotAll_ok G (dk - 1) (by omega) q3) rfl rfl t0 (zG Z) rfl (by simp [cat_i, cat_l, cat_d, cat_rf]) (zF Z (by omega)) (zO Z (by omega) (by decide)) (zM _) Z.2.1 Z.2.1 rfl rfl ?_
  refine J_putI Z.1 dX13_pokeAll_13 fl_X13_74 (fun q => by cases q) t0 rfl rfl (congrArg Value.int (hI_s _ _ _ _)) ?_
  refine J_th (fun h4 eh4 => ?_)
  replace hf := lt_i hf h4 eh4
  refine J_aload_n Z.1 0 dX13_pokeAll_16 rfl rfl ?_
  refine J_get (v := .int (hI h4 this 0)) Z.1 dX13_pokeAll_17 fl_X13_74 t0 rfl ?_
  refine J_if_le Z.1 25 dX13_pokeAll_20 (by decide) (fun c5 => ?_) (fun c5 => ?_)
  · rw [if_pos c5] at hf
    refine J_iconst Z.1 (v := 0) (by decide) dX13_pokeAll_25 ?_
    refine J_istore Z.1 (lv2 := [(4, .int 0), (0, va_rf (some this)), (1, .int p1), (2, .int p2), (3, .int p3)]) dX13_pokeAll_26 (zL Z (by decide)) rfl ?_
    refine J_lv [1, 2, 3, 4, 0] rfl ?_
    exact pX13_pokeAll_l28_ok Z hK t0  FUEL _ _ hf
  · rw [if_neg c5] at hf
    refine J_iconst Z.1 (v := (-1)) (by decide) dX13_pokeAll_23 ?_
    cases hf
    exact J_iret Z.1 Z.2.2.2.2.2 dX13_pokeAll_24
theorem dX13_peekAll_0 : decode cX13_peekAll 0 = .ok (.aload_n 0, 1) := by decide +kernel
theorem dX13_peekAll_1 : decode cX13_peekAll 1 = .ok (.iconst 0, 1) := by decide +kernel
theorem dX13_peekAll_2 : decode cX13_peekAll 2 = .ok (.putfield 71, 3) := by decide +kernel
theorem dX13_peekAll_5 : decode cX13_peekAll 5 = .ok (.aload_n 0, 1) := by decide +kernel
theorem dX13_peekAll_6 : decode cX13_peekAll 6 = .ok (.aload_n 0, 1) := by decide +kernel
theorem dX13_peekAll_7 : decode cX13_peekAll 7 = .ok (.iload_n 1, 1) := by decide +kernel
theorem dX13_peekAll_8 : decode cX13_peekAll 8 = .ok (.iload_n 2, 1) := by decide +kernel
theorem dX13_peekAll_9 : decode cX13_peekAll 9 = .ok (.iload_n 3, 1) := by decide +kernel
theorem dX13_peekAll_10 : decode cX13_peekAll 10 = .ok (.invokevirtual 326, 3) := by decide +kernel
theorem dX13_peekAll_13 : decode cX13_peekAll 13 = .ok (.putfield 74, 3) := by decide +kernel
theorem dX13_peekAll_16 : decode cX13_peekAll 16 = .ok (.aload_n 0, 1) := by decide +kernel
theorem dX13_peekAll_17 : decode cX13_peekAll 17 = .ok (.getfield 74, 3) := by decide +kernel
theorem dX13_peekAll_20 : decode cX13_peekAll 20 = .ok (.ifCond .le 5, 3) := by decide +kernel
theorem dX13_peekAll_23 : decode cX13_peekAll 23 = .ok (.iconst (-1), 1) := by decide +kernel
theorem dX13_peekAll_24 : decode cX13_peekAll 24 = .ok (.ireturn, 1) := by decide +kernel
theorem dX13_peekAll_25 : decode cX13_peekAll 25 = .ok (.iconst 0, 1) := by decide +kernel
theorem dX13_peekAll_26 : decode cX13_peekAll 26 = .ok (.istore 4, 2) := by decide +kernel
theorem dX13_peekAll_28 : decode cX13_peekAll 28 = .ok (.iload 4, 2) := by decide +kernel
theorem dX13_peekAll_30 : decode cX13_peekAll 30 = .ok (.iload_n 3, 1) := by decide +kernel
theorem dX13_peekAll_31 : decode cX13_peekAll 31 = .ok (.if_icmp .ge 30, 3) := by decide +kernel
theorem dX13_peekAll_34 : decode cX13_peekAll 34 = .ok (.aload_n 0, 1) := by decide +kernel
theorem dX13_peekAll_35 : decode cX13_peekAll 35 = .ok (.iload_n 2, 1) := by decide +kernel
theorem dX13_peekAll_36 : decode cX13_peekAll 36 = .ok (.iload 4, 2) := by decide +kernel
theorem dX13_peekAll_38 : decode cX13_peekAll 38 = .ok (.aload_n 0, 1) := by decide +kernel
theorem dX13_peekAll_39 : decode cX13_peekAll 39 = .ok (.getfield 34, 3) := by decide +kernel
theorem dX13_peekAll_42 : decode cX13_peekAll 42 = .ok (.bipush 100, 2) := by decide +kernel
theorem dX13_peekAll_44 : decode cX13_peekAll 44 = .ok (.iload_n 1, 1) := by decide +kernel
theorem dX13_peekAll_45 : decode cX13_peekAll 45 = .ok (.iadd, 1) := by decide +kernel
theorem dX13_peekAll_46 : decode cX13_peekAll 46 = .ok (.iload 4, 2) := by decide +kernel
theorem dX13_peekAll_48 : decode cX13_peekAll 48 = .ok (.iadd, 1) := by decide +kernel
theorem dX13_peekAll_49 : decode cX13_peekAll 49 = .ok (.daload, 1) := by decide +kernel
theorem dX13_peekAll_50 : decode cX13_peekAll 50 = .ok (.d2l, 1) := by decide +kernel
theorem dX13_peekAll_51 : decode cX13_peekAll 51 = .ok (.invokevirtual 334, 3) := by decide +kernel
theorem dX13_peekAll_54 : decode cX13_peekAll 54 = .ok (.pop, 1) := by decide +kernel
theorem dX13_peekAll_55 : decode cX13_peekAll 55 = .ok (.iinc 4 1, 3) := by decide +kernel
theorem dX13_peekAll_58 : decode cX13_peekAll 58 = .ok (.goto (-30), 3) := by decide +kernel
theorem dX13_peekAll_61 : decode cX13_peekAll 61 = .ok (.iload_n 3, 1) := by decide +kernel
theorem dX13_peekAll_62 : decode cX13_peekAll 62 = .ok (.ireturn, 1) := by decide +kernel
def pX13_peekAll_b28 (g : MT) (this : Nat) (p1 : Int32) (p2 : Int32) (p3 : Int32) (k28 : Int32 → CT → Option ((Int32) × CT)) (l4 : Int32) (h : CT) : Option ((Int32) × CT) := if p3 ≤ l4 then some (p3, h) else lt (hR h this 20) fun r2 => (nn r2 fun a2 => (tg g a2 22 (ix (gL g a2) ((100 + p1) + l4) (bd2 (pX13_write g h this p2 l4 (FP.d2l (hD h a2 (Int32.toNatClampNeg ((100 + p1) + l4))))) fun x7 h5 => (lt (l4 + 1) fun x8 => (k28 x8 h5))))))
set_option maxRecDepth 10000 in
set_option maxHeartbeats 4000000 in
theorem pX13_peekAll_b28_ok {X : Cx} {G : Gx} {dk : Nat} {g : MT} {r0 : Int32} {h0 : CT} {this : Nat} {p1 : Int32} {p2 : Int32} {p3 : Int32} {k28 : Int32 → CT → Option ((Int32) × CT)} (Z : Zx X G cX13_peekAll RX13 5 dk (some .int) (some (.int r0)) g h0) (hK : 3 ≤ dk) (t0 : gT g this = 12) (hk28 : ∀ (l4 : Int32) (h : CT), k28 l4 h = some (r0, h0) → J X g h 28 [(0, va_rf (some this)), (1, .int p1), (2, .int p2), (3, .int p3), (4, .int l4)] []) (l4 : Int32) (h : CT) (hf : pX13_peekAll_b28 g this p1 p2 p3 k28 l4 h = some (r0, h0)) : J X g h 28 [(0, va_rf (some this)), (1, .int p1), (2, .int p2), (3, .int p3), (4, .int l4)] [] := by
  unfold pX13_peekAll_b28 at hf
  refine J_iload Z.1 4 dX13_peekAll_28 rfl ?_
  refine J_iload_n Z.1 3 dX13_peekAll_30 rfl rfl ?_
  refine J_icmp_ge Z.1 61 dX13_peekAll_31 (by decide) (fun c1 => ?_) (fun c1 => ?_)
  · rw [if_pos c1] at hf
    refine J_iload_n Z.1 3 dX13_peekAll_61 rfl rfl ?_
    cases hf
    exact J_iret Z.1 Z.2.2.2.2.2 dX13_peekAll_62
  · rw [if_neg c1] at hf
    refine J_aload_n Z.1 0 dX13_peekAll_34 rfl rfl ?_
    refine J_iload_n Z.1 2 dX13_peekAll_35 rfl rfl ?_
    refine J_iload Z.1 4 dX13_peekAll_36 rfl ?_
    refine J_aload_n Z.1 0 dX13_peekAll_38 rfl rfl ?_
    refine J_get (v := va_rf (hR h this 20)) Z.1 dX13_peekAll_39 fl_X13_34 t0 rfl ?_
    refine J_tr (fun r2 er2 => ?_)
    replace hf := lt_i hf r2 er2
    refine J_bipush Z.1 (v := 100) (by decide) dX13_peekAll_42 ?_
    refine J_iload_n Z.1 1 dX13_peekAll_44 rfl rfl ?_
    refine J_iadd Z.1 dX13_peekAll_45 ?_
    refine J_iload Z.1 4 dX13_peekAll_46 rfl ?_
    refine J_iadd Z.1 dX13_peekAll_48 ?_
    obtain ⟨a2, rfl, hf⟩ := nn_i hf
    obtain ⟨t3, hf⟩ := tg_i hf
    obtain ⟨i4, hf⟩ := ix_i hf
    refine J_daload Z.1 dX13_peekAll_49 t3 i4 ?_
    refine J_d2l Z.1 dX13_peekAll_50 ?_
    obtain ⟨x7, h5, q6, hf⟩ := bd2_i hf
    refine J_callV (ci := 11) (as := [.int p2, .int l4, .long (FP.d2l (hD h a2 (Int32.toNatClampNeg ((100 + p1) + l4))))]) (rest := []) (sy := [.int x7]) Z.1 dX13_peekAll_51 cw_X13_334 (pX13_write_ok G (dk - 1) (by omega) q6) rfl rfl t0 (zG Z) rfl (by decide) (zF Z (by omega)) (zO Z (by omega) (by decide)) (zM _) Z.2.1 Z.2.1 rfl rfl ?_
    refine J_pop Z.1 dX13_peekAll_54 (by simp [cat_i, cat_l, cat_d, cat_rf]) ?_
    refine J_iinc Z.1 (v := 1) (lv2 := [(4, .int (l4 + 1)), (0, va_rf (some this)), (1, .int p1), (2, .int p2), (3, .int p3)]) 4 dX13_peekAll_55 rfl (by decide) (zL Z (by decide)) rfl ?_
    obtain ⟨x8, ex8⟩ : ∃ z, z = (l4 + 1) := ⟨_, rfl⟩
    replace hf := lt_i hf x8 ex8
    rw [← ex8]
    refine J_goto Z.1 28 dX13_peekAll_58 (by decide) ?_
    refine J_lv [1, 2, 3, 4, 0] rfl ?_
    exact hk28 _ _ hf
def pX13_peekAll_l28 (g : MT) (this : Nat) (p1 : Int32) (p2 : Int32) (p3 : Int32) : Nat → Int32 → CT → Option ((Int32) × CT)
  | 0, _, _ => none
  | n + 1, l4, h => pX13_peekAll_b28 g this p1 p2 p3 (pX13_peekAll_l28 g this p1 p2 p3 n) l4 h
theorem pX13_peekAll_l28_ok {X : Cx} {G : Gx} {dk : Nat} {g : MT} {r0 : Int32} {h0 : CT} {this : Nat} {p1 : Int32} {p2 : Int32} {p3 : Int32} (Z : Zx X G cX13_peekAll RX13 5 dk (some .int) (some (.int r0)) g h0) (hK : 3 ≤ dk) (t0 : gT g this = 12) : ∀ (n : Nat) (l4 : Int32) (h : CT), pX13_peekAll_l28 g this p1 p2 p3 n l4 h = some (r0, h0) → J X g h 28 [(0, va_rf (some this)), (1, .int p1), (2, .int p2), (3, .int p3), (4, .int l4)] [] := by
  intro n
  induction n with
  | zero => intro l4 h hf; cases hf
  | succ n ih => intro l4 h hf; exact pX13_peekAll_b28_ok Z hK t0 ih l4 h hf
def pX13_peekAll (g : MT) (h : CT) (this : Nat) (p1 : Int32) (p2 : Int32) (p3 : Int32) : Option ((Int32) × CT) := tg g this 12 (lt (sI h this 1 0) fun h1 => (bd (pX13_whyNotAll g h1 this p1 p2 p3) fun x2 => (lt (sI h1 this 0 x2) fun h4 => (if (hI h4 this 0) ≤ 0 then pX13_peekAll_l28 g this p1 p2 p3  FUEL 0 h4 else some ((-1), h4)))))
set_option maxRecDepth 10000 in
set_option maxHeartbeats 4000000 in
theorem pX13_peekAll_ok (G : Gx) (dk : Nat) (hK : 3 ≤ dk) {g : MT} {h h0 : CT} {this : Nat} {p1 : Int32} {p2 : Int32} {p3 : Int32} {r0 : Int32} (hf : pX13_peekAll g h this p1 p2 p3 = some (r0, h0)) : Ctr G dk yX13_peekAll cX13_peekAll 5 (some .int) [va_rf (some this), .int p1, .int p2, .int p3] g h (some (.int r0)) g h0 := by
  refine Ctr.ofZ (lv := [(0, va_rf (some this)), (1, .int p1), (2, .int p2), (3, .int p3)]) (by decide +kernel) (by simp [cat_i, cat_l, cat_d, cat_rf]) rfl fun X Z => ?_
  unfold pX13_peekAll at hf
  obtain ⟨t0, hf⟩ := tg_i hf
  refine J_aload_n Z.1 0 dX13_peekAll_0 rfl rfl ?_
  refine J_iconst Z.1 (v := 0) (by decide) dX13_peekAll_1 ?_
  refine J_putI Z.1 dX13_peekAll_2 fl_X13_71 (fun q => by cases q) t0 rfl rfl (congrArg Value.int (hI_s _ _ _ _)) ?_
  refine J_th (fun h1 eh1 => ?_)
  replace hf := lt_i hf h1 eh1
  refine J_aload_n Z.1 0 dX13_peekAll_5 rfl rfl ?_
  refine J_aload_n Z.1 0 dX13_peekAll_6 rfl rfl ?_
  refine J_iload_n Z.1 1 dX13_peekAll_7 rfl rfl ?_
  refine J_iload_n Z.1 2 dX13_peekAll_8 rfl rfl ?_
  refine J_iload_n Z.1 3 dX13_peekAll_9 rfl rfl ?_
  obtain ⟨x2, q3, hf⟩ := bd_i hf
  refine J_callV (ci := 11) (as := [.int p1, .int p2, .int p3]) (rest := [va_rf (some this)]) (sy := [.int x2, va_rf (some this)]) Z.1 dX13_peekAll_10 cw_X13_326 (pX13_whyNotAll_ok G (dk - 1) (by omega) q3) rfl rfl t0 (zG Z) rfl (by simp [cat_i, cat_l, cat_d, cat_rf]) (zF Z (by omega)) (zO Z (by omega) (by decide)) (zM _) Z.2.1 Z.2.1 rfl rfl ?_
  refine J_putI Z.1 dX13_peekAll_13 fl_X13_74 (fun q => by cases q) t0 rfl rfl (congrArg Value.int (hI_s _ _ _ _)) ?_
  refine J_th (fun h4 eh4 => ?_)
  replace hf := lt_i hf h4 eh4
  refine J_aload_n Z.1 0 dX13_peekAll_16 rfl rfl ?_
  refine J_get (v := .int (hI h4 this 0)) Z.1 dX13_peekAll_17 fl_X13_74 t0 rfl ?_
  refine J_if_le Z.1 25 dX13_peekAll_20 (by decide) (fun c5 => ?_) (fun c5 => ?_)
  · rw [if_pos c5] at hf
    refine J_iconst Z.1 (v := 0) (by decide) dX13_peekAll_25 ?_
    refine J_istore Z.1 (lv2 := [(4, .int 0), (0, va_rf (some this)), (1, .int p1), (2, .int p2), (3, .int p3)]) dX13_peekAll_26 (zL Z (by decide)) rfl ?_
    refine J_lv [1, 2, 3, 4, 0] rfl ?_
    exact pX13_peekAll_l28_ok Z hK t0  FUEL _ _ hf
  · rw [if_neg c5] at hf
    refine J_iconst Z.1 (v := (-1)) (by decide) dX13_peekAll_23 ?_
    cases hf
    exact J_iret Z.1 Z.2.2.2.2.2 dX13_peekAll_24
theorem dX13_drop_0 : decode cX13_drop 0 = .ok (.aload_n 0, 1) := by decide +kernel
theorem dX13_drop_1 : decode cX13_drop 1 = .ok (.iconst 0, 1) := by decide +kernel
theorem dX13_drop_2 : decode cX13_drop 2 = .ok (.putfield 71, 3) := by decide +kernel
theorem dX13_drop_5 : decode cX13_drop 5 = .ok (.aload_n 0, 1) := by decide +kernel
theorem dX13_drop_6 : decode cX13_drop 6 = .ok (.iconst 0, 1) := by decide +kernel
theorem dX13_drop_7 : decode cX13_drop 7 = .ok (.putfield 74, 3) := by decide +kernel
theorem dX13_drop_10 : decode cX13_drop 10 = .ok (.iload_n 1, 1) := by decide +kernel
theorem dX13_drop_11 : decode cX13_drop 11 = .ok (.invokestatic 281, 3) := by decide +kernel
theorem dX13_drop_14 : decode cX13_drop 14 = .ok (.ifCond .ne 9, 3) := by decide +kernel
theorem dX13_drop_17 : decode cX13_drop 17 = .ok (.aload_n 0, 1) := by decide +kernel
theorem dX13_drop_18 : decode cX13_drop 18 = .ok (.iconst 2, 1) := by decide +kernel
theorem dX13_drop_19 : decode cX13_drop 19 = .ok (.invokevirtual 84, 3) := by decide +kernel
theorem dX13_drop_22 : decode cX13_drop 22 = .ok (.ireturn, 1) := by decide +kernel
theorem dX13_drop_23 : decode cX13_drop 23 = .ok (.aload_n 0, 1) := by decide +kernel
theorem dX13_drop_24 : decode cX13_drop 24 = .ok (.getfield 31, 3) := by decide +kernel
theorem dX13_drop_27 : decode cX13_drop 27 = .ok (.iconst 4, 1) := by decide +kernel
theorem dX13_drop_28 : decode cX13_drop 28 = .ok (.iaload, 1) := by decide +kernel
theorem dX13_drop_29 : decode cX13_drop 29 = .ok (.iload_n 1, 1) := by decide +kernel
theorem dX13_drop_30 : decode cX13_drop 30 = .ok (.invokestatic 287, 3) := by decide +kernel
theorem dX13_drop_33 : decode cX13_drop 33 = .ok (.ifCond .ne 9, 3) := by decide +kernel
theorem dX13_drop_36 : decode cX13_drop 36 = .ok (.aload_n 0, 1) := by decide +kernel
theorem dX13_drop_37 : decode cX13_drop 37 = .ok (.iconst 3, 1) := by decide +kernel
theorem dX13_drop_38 : decode cX13_drop 38 = .ok (.invokevirtual 84, 3) := by decide +kernel
theorem dX13_drop_41 : decode cX13_drop 41 = .ok (.ireturn, 1) := by decide +kernel
theorem dX13_drop_42 : decode cX13_drop 42 = .ok (.aload_n 0, 1) := by decide +kernel
theorem dX13_drop_43 : decode cX13_drop 43 = .ok (.getfield 31, 3) := by decide +kernel
theorem dX13_drop_46 : decode cX13_drop 46 = .ok (.iconst 4, 1) := by decide +kernel
theorem dX13_drop_47 : decode cX13_drop 47 = .ok (.dup2, 1) := by decide +kernel
theorem dX13_drop_48 : decode cX13_drop 48 = .ok (.iaload, 1) := by decide +kernel
theorem dX13_drop_49 : decode cX13_drop 49 = .ok (.iconst 1, 1) := by decide +kernel
theorem dX13_drop_50 : decode cX13_drop 50 = .ok (.iload_n 1, 1) := by decide +kernel
theorem dX13_drop_51 : decode cX13_drop 51 = .ok (.ishl, 1) := by decide +kernel
theorem dX13_drop_52 : decode cX13_drop 52 = .ok (.ixor, 1) := by decide +kernel
theorem dX13_drop_53 : decode cX13_drop 53 = .ok (.iastore, 1) := by decide +kernel
theorem dX13_drop_54 : decode cX13_drop 54 = .ok (.iconst 1, 1) := by decide +kernel
theorem dX13_drop_55 : decode cX13_drop 55 = .ok (.ireturn, 1) := by decide +kernel
def pX13_drop (g : MT) (h : CT) (this : Nat) (p1 : Int32) : Option ((Int32) × CT) := tg g this 12 (lt (sI h this 1 0) fun h1 => (lt (sI h1 this 0 0) fun h2 => (if (pX13_isRow p1) = 0 then bd2 (pX13_no g h2 this 2) fun x19 h17 => (bz x19 (some (x19, h17))) else lt (hR h2 this 19) fun r4 => (nn r4 fun a4 => (tg g a4 20 (ix (gL g a4) 4 (if (pX13_has (hI h2 a4 (Int32.toNatClampNeg 4)) p1) = 0 then bd2 (pX13_no g h2 this 3) fun x15 h13 => (bz x15 (some (x15, h13))) else lt (hR h2 this 19) fun r8 => (nn r8 fun a8 => (tg g a8 20 (ix (gL g a8) 4 (ix (gL g a8) 4 (lt (sI h2 a8 (Int32.toNatClampNeg 4) ((hI h2 a8 (Int32.toNatClampNeg 4)) ^^^ ((1 : Int32) <<< (p1 &&& 31)))) fun h12 => (some (1, h12))))))))))))))
set_option maxRecDepth 10000 in
set_option maxHeartbeats 4000000 in
theorem pX13_drop_ok (G : Gx) (dk : Nat) (hK : 2 ≤ dk) {g : MT} {h h0 : CT} {this : Nat} {p1 : Int32} {r0 : Int32} (hf : pX13_drop g h this p1 = some (r0, h0)) : Ctr G dk yX13_drop cX13_drop 2 (some .boolean) [va_rf (some this), .int p1] g h (some (.int r0)) g h0 := by
  refine Ctr.ofZ (lv := [(0, va_rf (some this)), (1, .int p1)]) (by decide +kernel) (by simp [cat_i, cat_l, cat_d, cat_rf]) rfl fun X Z => ?_
  unfold pX13_drop at hf
  obtain ⟨t0, hf⟩ := tg_i hf
  refine J_aload_n Z.1 0 dX13_drop_0 rfl rfl ?_
  refine J_iconst Z.1 (v := 0) (by decide) dX13_drop_1 ?_
  refine J_putI Z.1 dX13_drop_2 fl_X13_71 (fun q => by cases q) t0 rfl rfl (congrArg Value.int (hI_s _ _ _ _)) ?_
  refine J_th (fun h1 eh1 => ?_)
  replace hf := lt_i hf h1 eh1
  refine J_aload_n Z.1 0 dX13_drop_5 rfl rfl ?_
  refine J_iconst Z.1 (v := 0) (by decide) dX13_drop_6 ?_
  refine J_putI Z.1 dX13_drop_7 fl_X13_74 (fun q => by cases q) t0 rfl rfl (congrArg Value.int (hI_s _ _ _ _)) ?_
  refine J_th (fun h2 eh2 => ?_)
  replace hf := lt_i hf h2 eh2
  refine J_iload_n Z.1 1 dX13_drop_10 rfl rfl ?_
  refine J_callS (as := [.int p1]) (rest := []) (sy := [.int (pX13_isRow p1)]) Z.1 dX13_drop_11 cw_X13_281 (pX13_isRow_ok G (dk - 1) (by omega) g h2 p1) (zG Z) rfl (by decide) (zF Z (by omega)) (zO Z (by omega) (by decide)) (zM _) Z.2.1 Z.2.1 rfl rfl ?_
  refine J_if_ne Z.1 23 dX13_drop_14 (by decide) (fun c3 => ?_) (fun c3 => ?_)
  · rw [if_neg c3] at hf
    refine J_aload_n Z.1 0 dX13_drop_23 rfl rfl ?_
    refine J_get (v := va_rf (hR h2 this 19)) Z.1 dX13_drop_24 fl_X13_31 t0 rfl ?_
    refine J_tr (fun r4 er4 => ?_)
    replace hf := lt_i hf r4 er4
    refine J_iconst Z.1 (v := 4) (by decide) dX13_drop_27 ?_
    obtain ⟨a4, rfl, hf⟩ := nn_i hf
    obtain ⟨t5, hf⟩ := tg_i hf
    obtain ⟨i6, hf⟩ := ix_i hf
    refine J_iaload Z.1 dX13_drop_28 t5 i6 ?_
    refine J_iload_n Z.1 1 dX13_drop_29 rfl rfl ?_
    refine J_callS (as := [.int (hI h2 a4 (Int32.toNatClampNeg 4)), .int p1]) (rest := []) (sy := [.int (pX13_has (hI h2 a4 (Int32.toNatClampNeg 4)) p1)]) Z.1 dX13_drop_30 cw_X13_287 (pX13_has_ok G (dk - 1) (by omega) g h2 (hI h2 a4 (Int32.toNatClampNeg 4)) p1) (zG Z) rfl (by decide) (zF Z (by omega)) (zO Z (by omega) (by decide)) (zM _) Z.2.1 Z.2.1 rfl rfl ?_
    refine J_if_ne Z.1 42 dX13_drop_33 (by decide) (fun c7 => ?_) (fun c7 => ?_)
    · rw [if_neg c7] at hf
      refine J_aload_n Z.1 0 dX13_drop_42 rfl rfl ?_
      refine J_get (v := va_rf (hR h2 this 19)) Z.1 dX13_drop_43 fl_X13_31 t0 rfl ?_
      refine J_tr (fun r8 er8 => ?_)
      replace hf := lt_i hf r8 er8
      refine J_iconst Z.1 (v := 4) (by decide) dX13_drop_46 ?_
      refine J_dup2 Z.1 dX13_drop_47 (by simp [cat_i, cat_l, cat_d, cat_rf]) (by simp [cat_i, cat_l, cat_d, cat_rf]) ?_
      obtain ⟨a8, rfl, hf⟩ := nn_i hf
      obtain ⟨t9, hf⟩ := tg_i hf
      obtain ⟨i10, hf⟩ := ix_i hf
      refine J_iaload Z.1 dX13_drop_48 t9 i10 ?_
      refine J_iconst Z.1 (v := 1) (by decide) dX13_drop_49 ?_
      refine J_iload_n Z.1 1 dX13_drop_50 rfl rfl ?_
      refine J_ishl Z.1 dX13_drop_51 ?_
      refine J_ixor Z.1 dX13_drop_52 ?_
      obtain ⟨i11, hf⟩ := ix_i hf
      refine J_iastore Z.1 dX13_drop_53 t9 i11 ?_
      refine J_th (fun h12 eh12 => ?_)
      replace hf := lt_i hf h12 eh12
      refine J_iconst Z.1 (v := 1) (by decide) dX13_drop_54 ?_
      cases hf
      exact J_zret Z.1 Z.2.2.2.2.2 (z_n (Or.inr rfl)) dX13_drop_55
    · rw [if_pos c7] at hf
      refine J_aload_n Z.1 0 dX13_drop_36 rfl rfl ?_
      refine J_iconst Z.1 (v := 3) (by decide) dX13_drop_37 ?_
      obtain ⟨x15, h13, q14, hf⟩ := bd2_i hf
      refine J_callV (ci := 11) (as := [.int 3]) (rest := []) (sy := [.int x15]) Z.1 dX13_drop_38 cw_X13_84 (pX13_no_ok G (dk - 1) (by omega) q14) rfl rfl t0 (zG Z) rfl (by decide) (zF Z (by omega)) (zO Z (by omega) (by decide)) (zM _) Z.2.1 Z.2.1 rfl rfl ?_
      obtain ⟨z16, hf⟩ := bz_i hf
      cases hf
      exact J_zret Z.1 Z.2.2.2.2.2 (z_n z16) dX13_drop_41
  · rw [if_pos c3] at hf
    refine J_aload_n Z.1 0 dX13_drop_17 rfl rfl ?_
    refine J_iconst Z.1 (v := 2) (by decide) dX13_drop_18 ?_
    obtain ⟨x19, h17, q18, hf⟩ := bd2_i hf
    refine J_callV (ci := 11) (as := [.int 2]) (rest := []) (sy := [.int x19]) Z.1 dX13_drop_19 cw_X13_84 (pX13_no_ok G (dk - 1) (by omega) q18) rfl rfl t0 (zG Z) rfl (by decide) (zF Z (by omega)) (zO Z (by omega) (by decide)) (zM _) Z.2.1 Z.2.1 rfl rfl ?_
    obtain ⟨z20, hf⟩ := bz_i hf
    cases hf
    exact J_zret Z.1 Z.2.2.2.2.2 (z_n z20) dX13_drop_22
theorem dX13_leastOf_0 : decode cX13_leastOf 0 = .ok (.iload_n 0, 1) := by decide +kernel
theorem dX13_leastOf_1 : decode cX13_leastOf 1 = .ok (.iconst 1, 1) := by decide +kernel
theorem dX13_leastOf_2 : decode cX13_leastOf 2 = .ok (.if_icmp .eq 8, 3) := by decide +kernel
theorem dX13_leastOf_5 : decode cX13_leastOf 5 = .ok (.iload_n 0, 1) := by decide +kernel
theorem dX13_leastOf_6 : decode cX13_leastOf 6 = .ok (.iconst 2, 1) := by decide +kernel
theorem dX13_leastOf_7 : decode cX13_leastOf 7 = .ok (.if_icmp .ne 7, 3) := by decide +kernel
theorem dX13_leastOf_10 : decode cX13_leastOf 10 = .ok (.iconst 1, 1) := by decide +kernel
theorem dX13_leastOf_11 : decode cX13_leastOf 11 = .ok (.goto 4, 3) := by decide +kernel
theorem dX13_leastOf_14 : decode cX13_leastOf 14 = .ok (.iconst 0, 1) := by decide +kernel
theorem dX13_leastOf_15 : decode cX13_leastOf 15 = .ok (.ireturn, 1) := by decide +kernel
def pX13_leastOf_b10 (p0 : Int32)  : Int32 := 1
set_option maxRecDepth 10000 in
set_option maxHeartbeats 4000000 in
theorem pX13_leastOf_b10_ok {X : Cx} {G : Gx} {dk : Nat} {g : MT} {r0 : Int32} {h0 : CT} {p0 : Int32} (Z : Zx X G cX13_leastOf RX13 1 dk (some .int) (some (.int r0)) g h0) (hK : 0 ≤ dk)  (hf : pX13_leastOf_b10 p0 = r0) : J X g h0 10 [] [] := by
  unfold pX13_leastOf_b10 at hf
  refine J_iconst Z.1 (v := 1) (by decide) dX13_leastOf_10 ?_
  refine J_goto Z.1 15 dX13_leastOf_11 (by decide) ?_
  cases hf
  exact J_iret Z.1 Z.2.2.2.2.2 dX13_leastOf_15
def pX13_leastOf (p0 : Int32) : Int32 := if p0 = 1 then pX13_leastOf_b10 p0   else if p0 = 2 then pX13_leastOf_b10 p0   else 0
set_option maxRecDepth 10000 in
set_option maxHeartbeats 4000000 in
theorem pX13_leastOf_ok (G : Gx) (dk : Nat) (hK : 0 ≤ dk) (g : MT) (h0 : CT) (p0 : Int32) : Ctr G dk yX13_leastOf cX13_leastOf 1 (some .int) [.int p0] g h0 (some (.int (pX13_leastOf p0))) g h0 := by
  obtain ⟨r0, hf⟩ : ∃ z, pX13_leastOf p0 = z := ⟨_, rfl⟩
  rw [hf]
  refine Ctr.ofZ (lv := [(0, .int p0)]) (by decide +kernel) (by simp [cat_i, cat_l, cat_d, cat_rf]) rfl fun X Z => ?_
  unfold pX13_leastOf at hf
  refine J_iload_n Z.1 0 dX13_leastOf_0 rfl rfl ?_
  refine J_iconst Z.1 (v := 1) (by decide) dX13_leastOf_1 ?_
  refine J_icmp_eq Z.1 10 dX13_leastOf_2 (by decide) (fun c1 => ?_) (fun c1 => ?_)
  · rw [if_pos c1] at hf
    refine J_lv [] rfl ?_
    exact pX13_leastOf_b10_ok Z hK   hf
  · rw [if_neg c1] at hf
    refine J_iload_n Z.1 0 dX13_leastOf_5 rfl rfl ?_
    refine J_iconst Z.1 (v := 2) (by decide) dX13_leastOf_6 ?_
    refine J_icmp_ne Z.1 14 dX13_leastOf_7 (by decide) (fun c2 => ?_) (fun c2 => ?_)
    · rw [if_neg c2] at hf
      refine J_iconst Z.1 (v := 0) (by decide) dX13_leastOf_14 ?_
      cases hf
      exact J_iret Z.1 Z.2.2.2.2.2 dX13_leastOf_15
    · rw [if_pos c2] at hf
      refine J_lv [] rfl ?_
      exact pX13_leastOf_b10_ok Z hK   hf
theorem dX13_greatestOf_0 : decode cX13_greatestOf 0 = .ok (.iload_n 0, 1) := by decide +kernel
theorem dX13_greatestOf_1 : decode cX13_greatestOf 1 = .ok (.ifCond .ne 8, 3) := by decide +kernel
theorem dX13_greatestOf_4 : decode cX13_greatestOf 4 = .ok (.bipush 16, 2) := by decide +kernel
theorem dX13_greatestOf_6 : decode cX13_greatestOf 6 = .ok (.goto 26, 3) := by decide +kernel
theorem dX13_greatestOf_9 : decode cX13_greatestOf 9 = .ok (.iload_n 0, 1) := by decide +kernel
theorem dX13_greatestOf_10 : decode cX13_greatestOf 10 = .ok (.iconst 1, 1) := by decide +kernel
theorem dX13_greatestOf_11 : decode cX13_greatestOf 11 = .ok (.if_icmp .ne 8, 3) := by decide +kernel
theorem dX13_greatestOf_14 : decode cX13_greatestOf 14 = .ok (.bipush 16, 2) := by decide +kernel
theorem dX13_greatestOf_16 : decode cX13_greatestOf 16 = .ok (.goto 16, 3) := by decide +kernel
theorem dX13_greatestOf_19 : decode cX13_greatestOf 19 = .ok (.iload_n 0, 1) := by decide +kernel
theorem dX13_greatestOf_20 : decode cX13_greatestOf 20 = .ok (.iconst 2, 1) := by decide +kernel
theorem dX13_greatestOf_21 : decode cX13_greatestOf 21 = .ok (.if_icmp .ne 8, 3) := by decide +kernel
theorem dX13_greatestOf_24 : decode cX13_greatestOf 24 = .ok (.bipush 12, 2) := by decide +kernel
theorem dX13_greatestOf_26 : decode cX13_greatestOf 26 = .ok (.goto 6, 3) := by decide +kernel
theorem dX13_greatestOf_29 : decode cX13_greatestOf 29 = .ok (.ldc_w 338, 3) := by decide +kernel
theorem dX13_greatestOf_32 : decode cX13_greatestOf 32 = .ok (.ireturn, 1) := by decide +kernel
def pX13_greatestOf (p0 : Int32) : Int32 := if p0 = 0 then 16 else if p0 = 1 then 16 else if p0 = 2 then 12 else 65535
set_option maxRecDepth 10000 in
set_option maxHeartbeats 4000000 in
theorem pX13_greatestOf_ok (G : Gx) (dk : Nat) (hK : 0 ≤ dk) (g : MT) (h0 : CT) (p0 : Int32) : Ctr G dk yX13_greatestOf cX13_greatestOf 1 (some .int) [.int p0] g h0 (some (.int (pX13_greatestOf p0))) g h0 := by
  obtain ⟨r0, hf⟩ : ∃ z, pX13_greatestOf p0 = z := ⟨_, rfl⟩
  rw [hf]
  refine Ctr.ofZ (lv := [(0, .int p0)]) (by decide +kernel) (by simp [cat_i, cat_l, cat_d, cat_rf]) rfl fun X Z => ?_
  unfold pX13_greatestOf at hf
  refine J_iload_n Z.1 0 dX13_greatestOf_0 rfl rfl ?_
  refine J_if_ne Z.1 9 dX13_greatestOf_1 (by decide) (fun c1 => ?_) (fun c1 => ?_)
  · rw [if_neg c1] at hf
    refine J_iload_n Z.1 0 dX13_greatestOf_9 rfl rfl ?_
    refine J_iconst Z.1 (v := 1) (by decide) dX13_greatestOf_10 ?_
    refine J_icmp_ne Z.1 19 dX13_greatestOf_11 (by decide) (fun c2 => ?_) (fun c2 => ?_)
    · rw [if_neg c2] at hf
      refine J_iload_n Z.1 0 dX13_greatestOf_19 rfl rfl ?_
      refine J_iconst Z.1 (v := 2) (by decide) dX13_greatestOf_20 ?_
      refine J_icmp_ne Z.1 29 dX13_greatestOf_21 (by decide) (fun c3 => ?_) (fun c3 => ?_)
      · rw [if_neg c3] at hf
        refine J_ldcw Z.1 q_1866 dX13_greatestOf_29 ?_
        cases hf
        exact J_iret Z.1 Z.2.2.2.2.2 dX13_greatestOf_32
      · rw [if_pos c3] at hf
        refine J_bipush Z.1 (v := 12) (by decide) dX13_greatestOf_24 ?_
        refine J_goto Z.1 32 dX13_greatestOf_26 (by decide) ?_
        cases hf
        exact J_iret Z.1 Z.2.2.2.2.2 dX13_greatestOf_32
    · rw [if_pos c2] at hf
      refine J_bipush Z.1 (v := 16) (by decide) dX13_greatestOf_14 ?_
      refine J_goto Z.1 32 dX13_greatestOf_16 (by decide) ?_
      cases hf
      exact J_iret Z.1 Z.2.2.2.2.2 dX13_greatestOf_32
  · rw [if_pos c1] at hf
    refine J_bipush Z.1 (v := 16) (by decide) dX13_greatestOf_4 ?_
    refine J_goto Z.1 32 dX13_greatestOf_6 (by decide) ?_
    cases hf
    exact J_iret Z.1 Z.2.2.2.2.2 dX13_greatestOf_32
theorem dX13_rule_0 : decode cX13_rule 0 = .ok (.aload_n 0, 1) := by decide +kernel
theorem dX13_rule_1 : decode cX13_rule 1 = .ok (.iconst 0, 1) := by decide +kernel
theorem dX13_rule_2 : decode cX13_rule 2 = .ok (.putfield 71, 3) := by decide +kernel
theorem dX13_rule_5 : decode cX13_rule 5 = .ok (.aload_n 0, 1) := by decide +kernel
theorem dX13_rule_6 : decode cX13_rule 6 = .ok (.iconst 0, 1) := by decide +kernel
theorem dX13_rule_7 : decode cX13_rule 7 = .ok (.putfield 74, 3) := by decide +kernel
theorem dX13_rule_10 : decode cX13_rule 10 = .ok (.iload_n 1, 1) := by decide +kernel
theorem dX13_rule_11 : decode cX13_rule 11 = .ok (.i2l, 1) := by decide +kernel
theorem dX13_rule_12 : decode cX13_rule 12 = .ok (.lconst 0, 1) := by decide +kernel
theorem dX13_rule_13 : decode cX13_rule 13 = .ok (.ldc2_w 102, 3) := by decide +kernel
theorem dX13_rule_16 : decode cX13_rule 16 = .ok (.invokestatic 104, 3) := by decide +kernel
theorem dX13_rule_19 : decode cX13_rule 19 = .ok (.ifCond .eq 21, 3) := by decide +kernel
theorem dX13_rule_22 : decode cX13_rule 22 = .ok (.iload_n 2, 1) := by decide +kernel
theorem dX13_rule_23 : decode cX13_rule 23 = .ok (.i2l, 1) := by decide +kernel
theorem dX13_rule_24 : decode cX13_rule 24 = .ok (.iload_n 1, 1) := by decide +kernel
theorem dX13_rule_25 : decode cX13_rule 25 = .ok (.invokestatic 339, 3) := by decide +kernel
theorem dX13_rule_28 : decode cX13_rule 28 = .ok (.i2l, 1) := by decide +kernel
theorem dX13_rule_29 : decode cX13_rule 29 = .ok (.iload_n 1, 1) := by decide +kernel
theorem dX13_rule_30 : decode cX13_rule 30 = .ok (.invokestatic 342, 3) := by decide +kernel
theorem dX13_rule_33 : decode cX13_rule 33 = .ok (.i2l, 1) := by decide +kernel
theorem dX13_rule_34 : decode cX13_rule 34 = .ok (.invokestatic 104, 3) := by decide +kernel
theorem dX13_rule_37 : decode cX13_rule 37 = .ok (.ifCond .ne 9, 3) := by decide +kernel
theorem dX13_rule_40 : decode cX13_rule 40 = .ok (.aload_n 0, 1) := by decide +kernel
theorem dX13_rule_41 : decode cX13_rule 41 = .ok (.iconst 5, 1) := by decide +kernel
theorem dX13_rule_42 : decode cX13_rule 42 = .ok (.invokevirtual 84, 3) := by decide +kernel
theorem dX13_rule_45 : decode cX13_rule 45 = .ok (.ireturn, 1) := by decide +kernel
theorem dX13_rule_46 : decode cX13_rule 46 = .ok (.aload_n 0, 1) := by decide +kernel
theorem dX13_rule_47 : decode cX13_rule 47 = .ok (.getfield 31, 3) := by decide +kernel
theorem dX13_rule_50 : decode cX13_rule 50 = .ok (.iload_n 1, 1) := by decide +kernel
theorem dX13_rule_51 : decode cX13_rule 51 = .ok (.iload_n 2, 1) := by decide +kernel
theorem dX13_rule_52 : decode cX13_rule 52 = .ok (.iastore, 1) := by decide +kernel
theorem dX13_rule_53 : decode cX13_rule 53 = .ok (.iconst 1, 1) := by decide +kernel
theorem dX13_rule_54 : decode cX13_rule 54 = .ok (.ireturn, 1) := by decide +kernel
def pX13_rule_b40 (g : MT) (this : Nat) (p1 : Int32) (p2 : Int32) (h : CT) : Option ((Int32) × CT) := bd2 (pX13_no g h this 5) fun x3 h1 => (bz x3 (some (x3, h1)))
set_option maxRecDepth 10000 in
set_option maxHeartbeats 4000000 in
theorem pX13_rule_b40_ok {X : Cx} {G : Gx} {dk : Nat} {g : MT} {r0 : Int32} {h0 : CT} {this : Nat} {p1 : Int32} {p2 : Int32} (Z : Zx X G cX13_rule RX13 3 dk (some .boolean) (some (.int r0)) g h0) (hK : 1 ≤ dk) (t0 : gT g this = 12) (h : CT) (hf : pX13_rule_b40 g this p1 p2 h = some (r0, h0)) : J X g h 40 [(0, va_rf (some this))] [] := by
  unfold pX13_rule_b40 at hf
  refine J_aload_n Z.1 0 dX13_rule_40 rfl rfl ?_
  refine J_iconst Z.1 (v := 5) (by decide) dX13_rule_41 ?_
  obtain ⟨x3, h1, q2, hf⟩ := bd2_i hf
  refine J_callV (ci := 11) (as := [.int 5]) (rest := []) (sy := [.int x3]) Z.1 dX13_rule_42 cw_X13_84 (pX13_no_ok G (dk - 1) (by omega) q2) rfl rfl t0 (zG Z) rfl (by decide) (zF Z (by omega)) (zO Z (by omega) (by decide)) (zM _) Z.2.1 Z.2.1 rfl rfl ?_
  obtain ⟨z4, hf⟩ := bz_i hf
  cases hf
  exact J_zret Z.1 Z.2.2.2.2.2 (z_n z4) dX13_rule_45
def pX13_rule (g : MT) (h : CT) (this : Nat) (p1 : Int32) (p2 : Int32) : Option ((Int32) × CT) := tg g this 12 (lt (sI h this 1 0) fun h1 => (lt (sI h1 this 0 0) fun h2 => (if (pX13_isIn (Int32.toInt64 p1) 0 3) = 0 then pX13_rule_b40 g this p1 p2  h2 else if (pX13_isIn (Int32.toInt64 p2) (Int32.toInt64 (pX13_leastOf p1)) (Int32.toInt64 (pX13_greatestOf p1))) = 0 then pX13_rule_b40 g this p1 p2  h2 else lt (hR h2 this 19) fun r5 => (nn r5 fun a5 => (tg g a5 20 (ix (gL g a5) p1 (lt (sI h2 a5 (Int32.toNatClampNeg p1) p2) fun h8 => (some (1, h8)))))))))
set_option maxRecDepth 10000 in
set_option maxHeartbeats 4000000 in
theorem pX13_rule_ok (G : Gx) (dk : Nat) (hK : 1 ≤ dk) {g : MT} {h h0 : CT} {this : Nat} {p1 : Int32} {p2 : Int32} {r0 : Int32} (hf : pX13_rule g h this p1 p2 = some (r0, h0)) : Ctr G dk yX13_rule cX13_rule 3 (some .boolean) [va_rf (some this), .int p1, .int p2] g h (some (.int r0)) g h0 := by
  refine Ctr.ofZ (lv := [(0, va_rf (some this)), (1, .int p1), (2, .int p2)]) (by decide +kernel) (by simp [cat_i, cat_l, cat_d, cat_rf]) rfl fun X Z => ?_
  unfold pX13_rule at hf
  obtain ⟨t0, hf⟩ := tg_i hf
  refine J_aload_n Z.1 0 dX13_rule_0 rfl rfl ?_
  refine J_iconst Z.1 (v := 0) (by decide) dX13_rule_1 ?_
  refine J_putI Z.1 dX13_rule_2 fl_X13_71 (fun q => by cases q) t0 rfl rfl (congrArg Value.int (hI_s _ _ _ _)) ?_
  refine J_th (fun h1 eh1 => ?_)
  replace hf := lt_i hf h1 eh1
  refine J_aload_n Z.1 0 dX13_rule_5 rfl rfl ?_
  refine J_iconst Z.1 (v := 0) (by decide) dX13_rule_6 ?_
  refine J_putI Z.1 dX13_rule_7 fl_X13_74 (fun q => by cases q) t0 rfl rfl (congrArg Value.int (hI_s _ _ _ _)) ?_
  refine J_th (fun h2 eh2 => ?_)
  replace hf := lt_i hf h2 eh2
  refine J_iload_n Z.1 1 dX13_rule_10 rfl rfl ?_
  refine J_i2l Z.1 dX13_rule_11 ?_
  refine J_lconst Z.1 (v := 0) (by decide) dX13_rule_12 ?_
  refine J_ldc2 Z.1 q_1782 dX13_rule_13 ?_
  refine J_callS (as := [.long (Int32.toInt64 p1), .long 0, .long 3]) (rest := []) (sy := [.int (pX13_isIn (Int32.toInt64 p1) 0 3)]) Z.1 dX13_rule_16 cw_X13_104 (pX13_isIn_ok G (dk - 1) (by omega) g h2 (Int32.toInt64 p1) 0 3) (zG Z) rfl (by decide) (zF Z (by omega)) (zO Z (by omega) (by decide)) (zM _) Z.2.1 Z.2.1 rfl rfl ?_
  refine J_if_eq Z.1 40 dX13_rule_19 (by decide) (fun c3 => ?_) (fun c3 => ?_)
  · rw [if_pos c3] at hf
    refine J_lv [0] rfl ?_
    exact pX13_rule_b40_ok Z hK t0  _ hf
  · rw [if_neg c3] at hf
    refine J_iload_n Z.1 2 dX13_rule_22 rfl rfl ?_
    refine J_i2l Z.1 dX13_rule_23 ?_
    refine J_iload_n Z.1 1 dX13_rule_24 rfl rfl ?_
    refine J_callS (as := [.int p1]) (rest := [.long (Int32.toInt64 p2)]) (sy := [.int (pX13_leastOf p1), .long (Int32.toInt64 p2)]) Z.1 dX13_rule_25 cw_X13_339 (pX13_leastOf_ok G (dk - 1) (by omega) g h2 p1) (zG Z) rfl (by simp [cat_i, cat_l, cat_d, cat_rf]) (zF Z (by omega)) (zO Z (by omega) (by decide)) (zM _) Z.2.1 Z.2.1 rfl rfl ?_
    refine J_i2l Z.1 dX13_rule_28 ?_
    refine J_iload_n Z.1 1 dX13_rule_29 rfl rfl ?_
    refine J_callS (as := [.int p1]) (rest := [.long (Int32.toInt64 (pX13_leastOf p1)), .long (Int32.toInt64 p2)]) (sy := [.int (pX13_greatestOf p1), .long (Int32.toInt64 (pX13_leastOf p1)), .long (Int32.toInt64 p2)]) Z.1 dX13_rule_30 cw_X13_342 (pX13_greatestOf_ok G (dk - 1) (by omega) g h2 p1) (zG Z) rfl (by simp [cat_i, cat_l, cat_d, cat_rf]) (zF Z (by omega)) (zO Z (by omega) (by decide)) (zM _) Z.2.1 Z.2.1 rfl rfl ?_
    refine J_i2l Z.1 dX13_rule_33 ?_
    refine J_callS (as := [.long (Int32.toInt64 p2), .long (Int32.toInt64 (pX13_leastOf p1)), .long (Int32.toInt64 (pX13_greatestOf p1))]) (rest := []) (sy := [.int (pX13_isIn (Int32.toInt64 p2) (Int32.toInt64 (pX13_leastOf p1)) (Int32.toInt64 (pX13_greatestOf p1)))]) Z.1 dX13_rule_34 cw_X13_104 (pX13_isIn_ok G (dk - 1) (by omega) g h2 (Int32.toInt64 p2) (Int32.toInt64 (pX13_leastOf p1)) (Int32.toInt64 (pX13_greatestOf p1))) (zG Z) rfl (by decide) (zF Z (by omega)) (zO Z (by omega) (by decide)) (zM _) Z.2.1 Z.2.1 rfl rfl ?_
    refine J_if_ne Z.1 46 dX13_rule_37 (by decide) (fun c4 => ?_) (fun c4 => ?_)
    · rw [if_neg c4] at hf
      refine J_aload_n Z.1 0 dX13_rule_46 rfl rfl ?_
      refine J_get (v := va_rf (hR h2 this 19)) Z.1 dX13_rule_47 fl_X13_31 t0 rfl ?_
      refine J_tr (fun r5 er5 => ?_)
      replace hf := lt_i hf r5 er5
      refine J_iload_n Z.1 1 dX13_rule_50 rfl rfl ?_
      refine J_iload_n Z.1 2 dX13_rule_51 rfl rfl ?_
      obtain ⟨a5, rfl, hf⟩ := nn_i hf
      obtain ⟨t6, hf⟩ := tg_i hf
      obtain ⟨i7, hf⟩ := ix_i hf
      refine J_iastore Z.1 dX13_rule_52 t6 i7 ?_
      refine J_th (fun h8 eh8 => ?_)
      replace hf := lt_i hf h8 eh8
      refine J_iconst Z.1 (v := 1) (by decide) dX13_rule_53 ?_
      cases hf
      exact J_zret Z.1 Z.2.2.2.2.2 (z_n (Or.inr rfl)) dX13_rule_54
    · rw [if_pos c4] at hf
      refine J_lv [0] rfl ?_
      exact pX13_rule_b40_ok Z hK t0  _ hf
theorem dX13_isMemory_0 : decode cX13_isMemory 0 = .ok (.iload_n 0, 1) := by decide +kernel
theorem dX13_isMemory_1 : decode cX13_isMemory 1 = .ok (.iconst 3, 1) := by decide +kernel
theorem dX13_isMemory_2 : decode cX13_isMemory 2 = .ok (.if_icmp .lt 13, 3) := by decide +kernel
theorem dX13_isMemory_5 : decode cX13_isMemory 5 = .ok (.iload_n 0, 1) := by decide +kernel
theorem dX13_isMemory_6 : decode cX13_isMemory 6 = .ok (.bipush 6, 2) := by decide +kernel
theorem dX13_isMemory_8 : decode cX13_isMemory 8 = .ok (.if_icmp .gt 7, 3) := by decide +kernel
theorem dX13_isMemory_11 : decode cX13_isMemory 11 = .ok (.iconst 1, 1) := by decide +kernel
theorem dX13_isMemory_12 : decode cX13_isMemory 12 = .ok (.goto 4, 3) := by decide +kernel
theorem dX13_isMemory_15 : decode cX13_isMemory 15 = .ok (.iconst 0, 1) := by decide +kernel
theorem dX13_isMemory_16 : decode cX13_isMemory 16 = .ok (.ireturn, 1) := by decide +kernel
def pX13_isMemory (p0 : Int32) : Int32 := if p0 < 3 then 0 else if 6 < p0 then 0 else 1
set_option maxRecDepth 10000 in
set_option maxHeartbeats 4000000 in
theorem pX13_isMemory_ok (G : Gx) (dk : Nat) (hK : 0 ≤ dk) (g : MT) (h0 : CT) (p0 : Int32) : Ctr G dk yX13_isMemory cX13_isMemory 1 (some .boolean) [.int p0] g h0 (some (.int (pX13_isMemory p0))) g h0 := by
  obtain ⟨r0, hf⟩ : ∃ z, pX13_isMemory p0 = z := ⟨_, rfl⟩
  rw [hf]
  refine Ctr.ofZ (lv := [(0, .int p0)]) (by decide +kernel) (by simp [cat_i, cat_l, cat_d, cat_rf]) rfl fun X Z => ?_
  unfold pX13_isMemory at hf
  refine J_iload_n Z.1 0 dX13_isMemory_0 rfl rfl ?_
  refine J_iconst Z.1 (v := 3) (by decide) dX13_isMemory_1 ?_
  refine J_icmp_lt Z.1 15 dX13_isMemory_2 (by decide) (fun c1 => ?_) (fun c1 => ?_)
  · rw [if_pos c1] at hf
    refine J_iconst Z.1 (v := 0) (by decide) dX13_isMemory_15 ?_
    cases hf
    exact J_zret Z.1 Z.2.2.2.2.2 (z_n (Or.inl rfl)) dX13_isMemory_16
  · rw [if_neg c1] at hf
    refine J_iload_n Z.1 0 dX13_isMemory_5 rfl rfl ?_
    refine J_bipush Z.1 (v := 6) (by decide) dX13_isMemory_6 ?_
    refine J_icmp_gt Z.1 15 dX13_isMemory_8 (by decide) (fun c2 => ?_) (fun c2 => ?_)
    · rw [if_pos c2] at hf
      refine J_iconst Z.1 (v := 0) (by decide) dX13_isMemory_15 ?_
      cases hf
      exact J_zret Z.1 Z.2.2.2.2.2 (z_n (Or.inl rfl)) dX13_isMemory_16
    · rw [if_neg c2] at hf
      refine J_iconst Z.1 (v := 1) (by decide) dX13_isMemory_11 ?_
      refine J_goto Z.1 16 dX13_isMemory_12 (by decide) ?_
      cases hf
      exact J_zret Z.1 Z.2.2.2.2.2 (z_n (Or.inr rfl)) dX13_isMemory_16
theorem pX13_isMemory_z (p0 : Int32) : is01 (pX13_isMemory p0) := by
  unfold pX13_isMemory
  (try split) <;> (try split) <;> (try split) <;> (try split) <;> (try split) <;> (try split) <;> (try split) <;> (try split) <;> first | exact Or.inl rfl | exact Or.inr rfl
theorem dX13_isIndexed_0 : decode cX13_isIndexed 0 = .ok (.iload_n 0, 1) := by decide +kernel
theorem dX13_isIndexed_1 : decode cX13_isIndexed 1 = .ok (.iconst 5, 1) := by decide +kernel
theorem dX13_isIndexed_2 : decode cX13_isIndexed 2 = .ok (.if_icmp .eq 9, 3) := by decide +kernel
theorem dX13_isIndexed_5 : decode cX13_isIndexed 5 = .ok (.iload_n 0, 1) := by decide +kernel
theorem dX13_isIndexed_6 : decode cX13_isIndexed 6 = .ok (.bipush 6, 2) := by decide +kernel
theorem dX13_isIndexed_8 : decode cX13_isIndexed 8 = .ok (.if_icmp .ne 7, 3) := by decide +kernel
theorem dX13_isIndexed_11 : decode cX13_isIndexed 11 = .ok (.iconst 1, 1) := by decide +kernel
theorem dX13_isIndexed_12 : decode cX13_isIndexed 12 = .ok (.goto 4, 3) := by decide +kernel
theorem dX13_isIndexed_15 : decode cX13_isIndexed 15 = .ok (.iconst 0, 1) := by decide +kernel
theorem dX13_isIndexed_16 : decode cX13_isIndexed 16 = .ok (.ireturn, 1) := by decide +kernel
def pX13_isIndexed_b11 (p0 : Int32)  : Int32 := 1
set_option maxRecDepth 10000 in
set_option maxHeartbeats 4000000 in
theorem pX13_isIndexed_b11_ok {X : Cx} {G : Gx} {dk : Nat} {g : MT} {r0 : Int32} {h0 : CT} {p0 : Int32} (Z : Zx X G cX13_isIndexed RX13 1 dk (some .boolean) (some (.int r0)) g h0) (hK : 0 ≤ dk)  (hf : pX13_isIndexed_b11 p0 = r0) : J X g h0 11 [] [] := by
  unfold pX13_isIndexed_b11 at hf
  refine J_iconst Z.1 (v := 1) (by decide) dX13_isIndexed_11 ?_
  refine J_goto Z.1 16 dX13_isIndexed_12 (by decide) ?_
  cases hf
  exact J_zret Z.1 Z.2.2.2.2.2 (z_n (Or.inr rfl)) dX13_isIndexed_16
def pX13_isIndexed (p0 : Int32) : Int32 := if p0 = 5 then pX13_isIndexed_b11 p0   else if p0 = 6 then pX13_isIndexed_b11 p0   else 0
set_option maxRecDepth 10000 in
set_option maxHeartbeats 4000000 in
theorem pX13_isIndexed_ok (G : Gx) (dk : Nat) (hK : 0 ≤ dk) (g : MT) (h0 : CT) (p0 : Int32) : Ctr G dk yX13_isIndexed cX13_isIndexed 1 (some .boolean) [.int p0] g h0 (some (.int (pX13_isIndexed p0))) g h0 := by
  obtain ⟨r0, hf⟩ : ∃ z, pX13_isIndexed p0 = z := ⟨_, rfl⟩
  rw [hf]
  refine Ctr.ofZ (lv := [(0, .int p0)]) (by decide +kernel) (by simp [cat_i, cat_l, cat_d, cat_rf]) rfl fun X Z => ?_
  unfold pX13_isIndexed at hf
  refine J_iload_n Z.1 0 dX13_isIndexed_0 rfl rfl ?_
  refine J_iconst Z.1 (v := 5) (by decide) dX13_isIndexed_1 ?_
  refine J_icmp_eq Z.1 11 dX13_isIndexed_2 (by decide) (fun c1 => ?_) (fun c1 => ?_)
  · rw [if_pos c1] at hf
    refine J_lv [] rfl ?_
    exact pX13_isIndexed_b11_ok Z hK   hf
  · rw [if_neg c1] at hf
    refine J_iload_n Z.1 0 dX13_isIndexed_5 rfl rfl ?_
    refine J_bipush Z.1 (v := 6) (by decide) dX13_isIndexed_6 ?_
    refine J_icmp_ne Z.1 15 dX13_isIndexed_8 (by decide) (fun c2 => ?_) (fun c2 => ?_)
    · rw [if_neg c2] at hf
      refine J_iconst Z.1 (v := 0) (by decide) dX13_isIndexed_15 ?_
      cases hf
      exact J_zret Z.1 Z.2.2.2.2.2 (z_n (Or.inl rfl)) dX13_isIndexed_16
    · rw [if_pos c2] at hf
      refine J_lv [] rfl ?_
      exact pX13_isIndexed_b11_ok Z hK   hf
theorem pX13_isIndexed_z (p0 : Int32) : is01 (pX13_isIndexed p0) := by
  unfold pX13_isIndexed
  simp only [pX13_isIndexed_b11]
  (try split) <;> (try split) <;> (try split) <;> (try split) <;> (try split) <;> (try split) <;> (try split) <;> (try split) <;> first | exact Or.inl rfl | exact Or.inr rfl | exact pX13_isIn_z _ _ _
theorem dX13_isTwo_0 : decode cX13_isTwo 0 = .ok (.iload_n 0, 1) := by decide +kernel
theorem dX13_isTwo_1 : decode cX13_isTwo 1 = .ok (.bipush 7, 2) := by decide +kernel
theorem dX13_isTwo_3 : decode cX13_isTwo 3 = .ok (.if_icmp .lt 13, 3) := by decide +kernel
theorem dX13_isTwo_6 : decode cX13_isTwo 6 = .ok (.iload_n 0, 1) := by decide +kernel
theorem dX13_isTwo_7 : decode cX13_isTwo 7 = .ok (.bipush 13, 2) := by decide +kernel
theorem dX13_isTwo_9 : decode cX13_isTwo 9 = .ok (.if_icmp .gt 7, 3) := by decide +kernel
theorem dX13_isTwo_12 : decode cX13_isTwo 12 = .ok (.iconst 1, 1) := by decide +kernel
theorem dX13_isTwo_13 : decode cX13_isTwo 13 = .ok (.goto 4, 3) := by decide +kernel
theorem dX13_isTwo_16 : decode cX13_isTwo 16 = .ok (.iconst 0, 1) := by decide +kernel
theorem dX13_isTwo_17 : decode cX13_isTwo 17 = .ok (.ireturn, 1) := by decide +kernel
def pX13_isTwo (p0 : Int32) : Int32 := if p0 < 7 then 0 else if 13 < p0 then 0 else 1
set_option maxRecDepth 10000 in
set_option maxHeartbeats 4000000 in
theorem pX13_isTwo_ok (G : Gx) (dk : Nat) (hK : 0 ≤ dk) (g : MT) (h0 : CT) (p0 : Int32) : Ctr G dk yX13_isTwo cX13_isTwo 1 (some .boolean) [.int p0] g h0 (some (.int (pX13_isTwo p0))) g h0 := by
  obtain ⟨r0, hf⟩ : ∃ z, pX13_isTwo p0 = z := ⟨_, rfl⟩
  rw [hf]
  refine Ctr.ofZ (lv := [(0, .int p0)]) (by decide +kernel) (by simp [cat_i, cat_l, cat_d, cat_rf]) rfl fun X Z => ?_
  unfold pX13_isTwo at hf
  refine J_iload_n Z.1 0 dX13_isTwo_0 rfl rfl ?_
  refine J_bipush Z.1 (v := 7) (by decide) dX13_isTwo_1 ?_
  refine J_icmp_lt Z.1 16 dX13_isTwo_3 (by decide) (fun c1 => ?_) (fun c1 => ?_)
  · rw [if_pos c1] at hf
    refine J_iconst Z.1 (v := 0) (by decide) dX13_isTwo_16 ?_
    cases hf
    exact J_zret Z.1 Z.2.2.2.2.2 (z_n (Or.inl rfl)) dX13_isTwo_17
  · rw [if_neg c1] at hf
    refine J_iload_n Z.1 0 dX13_isTwo_6 rfl rfl ?_
    refine J_bipush Z.1 (v := 13) (by decide) dX13_isTwo_7 ?_
    refine J_icmp_gt Z.1 16 dX13_isTwo_9 (by decide) (fun c2 => ?_) (fun c2 => ?_)
    · rw [if_pos c2] at hf
      refine J_iconst Z.1 (v := 0) (by decide) dX13_isTwo_16 ?_
      cases hf
      exact J_zret Z.1 Z.2.2.2.2.2 (z_n (Or.inl rfl)) dX13_isTwo_17
    · rw [if_neg c2] at hf
      refine J_iconst Z.1 (v := 1) (by decide) dX13_isTwo_12 ?_
      refine J_goto Z.1 17 dX13_isTwo_13 (by decide) ?_
      cases hf
      exact J_zret Z.1 Z.2.2.2.2.2 (z_n (Or.inr rfl)) dX13_isTwo_17
theorem pX13_isTwo_z (p0 : Int32) : is01 (pX13_isTwo p0) := by
  unfold pX13_isTwo
  (try split) <;> (try split) <;> (try split) <;> (try split) <;> (try split) <;> (try split) <;> (try split) <;> (try split) <;> first | exact Or.inl rfl | exact Or.inr rfl
theorem dX13_isReckoned_0 : decode cX13_isReckoned 0 = .ok (.iload_n 0, 1) := by decide +kernel
theorem dX13_isReckoned_1 : decode cX13_isReckoned 1 = .ok (.bipush 7, 2) := by decide +kernel
theorem dX13_isReckoned_3 : decode cX13_isReckoned 3 = .ok (.if_icmp .lt 13, 3) := by decide +kernel
theorem dX13_isReckoned_6 : decode cX13_isReckoned 6 = .ok (.iload_n 0, 1) := by decide +kernel
theorem dX13_isReckoned_7 : decode cX13_isReckoned 7 = .ok (.bipush 16, 2) := by decide +kernel
theorem dX13_isReckoned_9 : decode cX13_isReckoned 9 = .ok (.if_icmp .gt 7, 3) := by decide +kernel
theorem dX13_isReckoned_12 : decode cX13_isReckoned 12 = .ok (.iconst 1, 1) := by decide +kernel
theorem dX13_isReckoned_13 : decode cX13_isReckoned 13 = .ok (.goto 4, 3) := by decide +kernel
theorem dX13_isReckoned_16 : decode cX13_isReckoned 16 = .ok (.iconst 0, 1) := by decide +kernel
theorem dX13_isReckoned_17 : decode cX13_isReckoned 17 = .ok (.ireturn, 1) := by decide +kernel
def pX13_isReckoned (p0 : Int32) : Int32 := if p0 < 7 then 0 else if 16 < p0 then 0 else 1
set_option maxRecDepth 10000 in
set_option maxHeartbeats 4000000 in
theorem pX13_isReckoned_ok (G : Gx) (dk : Nat) (hK : 0 ≤ dk) (g : MT) (h0 : CT) (p0 : Int32) : Ctr G dk yX13_isReckoned cX13_isReckoned 1 (some .boolean) [.int p0] g h0 (some (.int (pX13_isReckoned p0))) g h0 := by
  obtain ⟨r0, hf⟩ : ∃ z, pX13_isReckoned p0 = z := ⟨_, rfl⟩
  rw [hf]
  refine Ctr.ofZ (lv := [(0, .int p0)]) (by decide +kernel) (by simp [cat_i, cat_l, cat_d, cat_rf]) rfl fun X Z => ?_
  unfold pX13_isReckoned at hf
  refine J_iload_n Z.1 0 dX13_isReckoned_0 rfl rfl ?_
  refine J_bipush Z.1 (v := 7) (by decide) dX13_isReckoned_1 ?_
  refine J_icmp_lt Z.1 16 dX13_isReckoned_3 (by decide) (fun c1 => ?_) (fun c1 => ?_)
  · rw [if_pos c1] at hf
    refine J_iconst Z.1 (v := 0) (by decide) dX13_isReckoned_16 ?_
    cases hf
    exact J_zret Z.1 Z.2.2.2.2.2 (z_n (Or.inl rfl)) dX13_isReckoned_17
  · rw [if_neg c1] at hf
    refine J_iload_n Z.1 0 dX13_isReckoned_6 rfl rfl ?_
    refine J_bipush Z.1 (v := 16) (by decide) dX13_isReckoned_7 ?_
    refine J_icmp_gt Z.1 16 dX13_isReckoned_9 (by decide) (fun c2 => ?_) (fun c2 => ?_)
    · rw [if_pos c2] at hf
      refine J_iconst Z.1 (v := 0) (by decide) dX13_isReckoned_16 ?_
      cases hf
      exact J_zret Z.1 Z.2.2.2.2.2 (z_n (Or.inl rfl)) dX13_isReckoned_17
    · rw [if_neg c2] at hf
      refine J_iconst Z.1 (v := 1) (by decide) dX13_isReckoned_12 ?_
      refine J_goto Z.1 17 dX13_isReckoned_13 (by decide) ?_
      cases hf
      exact J_zret Z.1 Z.2.2.2.2.2 (z_n (Or.inr rfl)) dX13_isReckoned_17
theorem pX13_isReckoned_z (p0 : Int32) : is01 (pX13_isReckoned p0) := by
  unfold pX13_isReckoned
  (try split) <;> (try split) <;> (try split) <;> (try split) <;> (try split) <;> (try split) <;> (try split) <;> (try split) <;> first | exact Or.inl rfl | exact Or.inr rfl
theorem dX13_isCompared_0 : decode cX13_isCompared 0 = .ok (.iload_n 0, 1) := by decide +kernel
theorem dX13_isCompared_1 : decode cX13_isCompared 1 = .ok (.bipush 17, 2) := by decide +kernel
theorem dX13_isCompared_3 : decode cX13_isCompared 3 = .ok (.if_icmp .lt 13, 3) := by decide +kernel
theorem dX13_isCompared_6 : decode cX13_isCompared 6 = .ok (.iload_n 0, 1) := by decide +kernel
theorem dX13_isCompared_7 : decode cX13_isCompared 7 = .ok (.bipush 19, 2) := by decide +kernel
theorem dX13_isCompared_9 : decode cX13_isCompared 9 = .ok (.if_icmp .gt 7, 3) := by decide +kernel
theorem dX13_isCompared_12 : decode cX13_isCompared 12 = .ok (.iconst 1, 1) := by decide +kernel
theorem dX13_isCompared_13 : decode cX13_isCompared 13 = .ok (.goto 4, 3) := by decide +kernel
theorem dX13_isCompared_16 : decode cX13_isCompared 16 = .ok (.iconst 0, 1) := by decide +kernel
theorem dX13_isCompared_17 : decode cX13_isCompared 17 = .ok (.ireturn, 1) := by decide +kernel
def pX13_isCompared (p0 : Int32) : Int32 := if p0 < 17 then 0 else if 19 < p0 then 0 else 1
set_option maxRecDepth 10000 in
set_option maxHeartbeats 4000000 in
theorem pX13_isCompared_ok (G : Gx) (dk : Nat) (hK : 0 ≤ dk) (g : MT) (h0 : CT) (p0 : Int32) : Ctr G dk yX13_isCompared cX13_isCompared 1 (some .boolean) [.int p0] g h0 (some (.int (pX13_isCompared p0))) g h0 := by
  obtain ⟨r0, hf⟩ : ∃ z, pX13_isCompared p0 = z := ⟨_, rfl⟩
  rw [hf]
  refine Ctr.ofZ (lv := [(0, .int p0)]) (by decide +kernel) (by simp [cat_i, cat_l, cat_d, cat_rf]) rfl fun X Z => ?_
  unfold pX13_isCompared at hf
  refine J_iload_n Z.1 0 dX13_isCompared_0 rfl rfl ?_
  refine J_bipush Z.1 (v := 17) (by decide) dX13_isCompared_1 ?_
  refine J_icmp_lt Z.1 16 dX13_isCompared_3 (by decide) (fun c1 => ?_) (fun c1 => ?_)
  · rw [if_pos c1] at hf
    refine J_iconst Z.1 (v := 0) (by decide) dX13_isCompared_16 ?_
    cases hf
    exact J_zret Z.1 Z.2.2.2.2.2 (z_n (Or.inl rfl)) dX13_isCompared_17
  · rw [if_neg c1] at hf
    refine J_iload_n Z.1 0 dX13_isCompared_6 rfl rfl ?_
    refine J_bipush Z.1 (v := 19) (by decide) dX13_isCompared_7 ?_
    refine J_icmp_gt Z.1 16 dX13_isCompared_9 (by decide) (fun c2 => ?_) (fun c2 => ?_)
    · rw [if_pos c2] at hf
      refine J_iconst Z.1 (v := 0) (by decide) dX13_isCompared_16 ?_
      cases hf
      exact J_zret Z.1 Z.2.2.2.2.2 (z_n (Or.inl rfl)) dX13_isCompared_17
    · rw [if_neg c2] at hf
      refine J_iconst Z.1 (v := 1) (by decide) dX13_isCompared_12 ?_
      refine J_goto Z.1 17 dX13_isCompared_13 (by decide) ?_
      cases hf
      exact J_zret Z.1 Z.2.2.2.2.2 (z_n (Or.inr rfl)) dX13_isCompared_17
theorem pX13_isCompared_z (p0 : Int32) : is01 (pX13_isCompared p0) := by
  unfold pX13_isCompared
  (try split) <;> (try split) <;> (try split) <;> (try split) <;> (try split) <;> (try split) <;> (try split) <;> (try split) <;> first | exact Or.inl rfl | exact Or.inr rfl
