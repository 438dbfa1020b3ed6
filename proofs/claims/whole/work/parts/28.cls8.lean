/-! written by wip/whole/gen.py out of the printed bytecode -/
theorem dX12_rowTrouble_0 : decode cX12_rowTrouble 0 = .ok (.iload_n 1, 1) := by decide +kernel
theorem dX12_rowTrouble_1 : decode cX12_rowTrouble 1 = .ok (.iconst 0, 1) := by decide +kernel
theorem dX12_rowTrouble_2 : decode cX12_rowTrouble 2 = .ok (.iconst 5, 1) := by decide +kernel
theorem dX12_rowTrouble_3 : decode cX12_rowTrouble 3 = .ok (.invokestatic 109, 3) := by decide +kernel
theorem dX12_rowTrouble_6 : decode cX12_rowTrouble 6 = .ok (.ifCond .ne 5, 3) := by decide +kernel
theorem dX12_rowTrouble_9 : decode cX12_rowTrouble 9 = .ok (.iconst 2, 1) := by decide +kernel
theorem dX12_rowTrouble_10 : decode cX12_rowTrouble 10 = .ok (.ireturn, 1) := by decide +kernel
theorem dX12_rowTrouble_11 : decode cX12_rowTrouble 11 = .ok (.aload_n 0, 1) := by decide +kernel
theorem dX12_rowTrouble_12 : decode cX12_rowTrouble 12 = .ok (.getfield 30, 3) := by decide +kernel
theorem dX12_rowTrouble_15 : decode cX12_rowTrouble 15 = .ok (.getfield 209, 3) := by decide +kernel
theorem dX12_rowTrouble_18 : decode cX12_rowTrouble 18 = .ok (.iload_n 1, 1) := by decide +kernel
theorem dX12_rowTrouble_19 : decode cX12_rowTrouble 19 = .ok (.baload, 1) := by decide +kernel
theorem dX12_rowTrouble_20 : decode cX12_rowTrouble 20 = .ok (.ifCond .eq 7, 3) := by decide +kernel
theorem dX12_rowTrouble_23 : decode cX12_rowTrouble 23 = .ok (.iconst 0, 1) := by decide +kernel
theorem dX12_rowTrouble_24 : decode cX12_rowTrouble 24 = .ok (.goto 4, 3) := by decide +kernel
theorem dX12_rowTrouble_27 : decode cX12_rowTrouble 27 = .ok (.iconst 3, 1) := by decide +kernel
theorem dX12_rowTrouble_28 : decode cX12_rowTrouble 28 = .ok (.ireturn, 1) := by decide +kernel
def pX12_rowTrouble (g : MT) (h : CT) (this : Nat) (p1 : Int32) : Option Int32 := tg g this 11 (if (pX12_within p1 0 5) = 0 then some 2 else lt (hR h this 4) fun r2 => (nn r2 fun a2 => (tg g a2 3 (lt (hR h a2 1) fun r4 => (nn r4 fun a4 => (tg g a4 24 (ix (gL g a4) p1 (if (hI h a4 (Int32.toNatClampNeg p1)) = 0 then some 3 else some 0))))))))
set_option maxRecDepth 10000 in
set_option maxHeartbeats 4000000 in
theorem pX12_rowTrouble_ok (G : Gx) (dk : Nat) (hK : 1 ≤ dk) {g : MT} {h : CT} {this : Nat} {p1 : Int32} {r0 : Int32} (hf : pX12_rowTrouble g h this p1 = some r0) : Ctr G dk yX12_rowTrouble cX12_rowTrouble 2 (some .int) [va_rf (some this), .int p1] g h (some (.int r0)) g h := by
  refine Ctr.ofZ (lv := [(0, va_rf (some this)), (1, .int p1)]) (by decide +kernel) (by simp [cat_i, cat_l, cat_d, cat_rf]) rfl fun X Z => ?_
  unfold pX12_rowTrouble at hf
  replace hf := tg_i hf
  obtain ⟨t0, hf⟩ := hf
  refine J_iload_n Z.1 1 dX12_rowTrouble_0 rfl rfl ?_
  refine J_iconst Z.1 (v := 0) (by decide) dX12_rowTrouble_1 ?_
  refine J_iconst Z.1 (v := 5) (by decide) dX12_rowTrouble_2 ?_
  refine J_callS (as := [.int p1, .int 0, .int 5]) (rest := []) (sy := [.int (pX12_within p1 0 5)]) Z.1 dX12_rowTrouble_3 cw_X12_109 (pX12_within_ok G (dk - 1) (by omega) g h p1 0 5) (zG Z) rfl (by decide) (zF Z (by omega)) (zO Z (by omega) (by decide)) (zM _) Z.2.1 Z.2.1 rfl rfl ?_
  refine J_if_ne Z.1 11 dX12_rowTrouble_6 (by decide) (fun c1 => ?_) (fun c1 => ?_)
  · rw [if_neg c1] at hf
    refine J_aload_n Z.1 0 dX12_rowTrouble_11 rfl rfl ?_
    refine J_get (v := va_rf (hR h this 4)) Z.1 dX12_rowTrouble_12 fl_X12_30 t0 rfl ?_
    refine J_tr (fun r2 er2 => ?_)
    replace hf := lt_i hf r2 er2
    replace hf := nn_i hf
    obtain ⟨a2, rfl, hf⟩ := hf
    replace hf := tg_i hf
    obtain ⟨t3, hf⟩ := hf
    refine J_get (v := va_rf (hR h a2 1)) Z.1 dX12_rowTrouble_15 fl_X12_209 t3 rfl ?_
    refine J_tr (fun r4 er4 => ?_)
    replace hf := lt_i hf r4 er4
    refine J_iload_n Z.1 1 dX12_rowTrouble_18 rfl rfl ?_
    replace hf := nn_i hf
    obtain ⟨a4, rfl, hf⟩ := hf
    replace hf := tg_i hf
    obtain ⟨t5, hf⟩ := hf
    replace hf := ix_i hf
    obtain ⟨i6, hf⟩ := hf
    refine J_zaload Z.1 dX12_rowTrouble_19 t5 i6 ?_
    refine J_if_eq Z.1 27 dX12_rowTrouble_20 (by decide) (fun c7 => ?_) (fun c7 => ?_)
    · rw [if_pos c7] at hf
      refine J_iconst Z.1 (v := 3) (by decide) dX12_rowTrouble_27 ?_
      cases hf
      exact J_iret Z.1 Z.2.2.2.2.2 dX12_rowTrouble_28
    · rw [if_neg c7] at hf
      refine J_iconst Z.1 (v := 0) (by decide) dX12_rowTrouble_23 ?_
      refine J_goto Z.1 28 dX12_rowTrouble_24 (by decide) ?_
      cases hf
      exact J_iret Z.1 Z.2.2.2.2.2 dX12_rowTrouble_28
  · rw [if_pos c1] at hf
    refine J_iconst Z.1 (v := 2) (by decide) dX12_rowTrouble_9 ?_
    cases hf
    exact J_iret Z.1 Z.2.2.2.2.2 dX12_rowTrouble_10
theorem dX12_isNumber_0 : decode cX12_isNumber 0 = .ok (.lload_n 0, 1) := by decide +kernel
theorem dX12_isNumber_1 : decode cX12_isNumber 1 = .ok (.ldc2_w 212, 3) := by decide +kernel
theorem dX12_isNumber_4 : decode cX12_isNumber 4 = .ok (.lcmp, 1) := by decide +kernel
theorem dX12_isNumber_5 : decode cX12_isNumber 5 = .ok (.ifCond .lt 28, 3) := by decide +kernel
theorem dX12_isNumber_8 : decode cX12_isNumber 8 = .ok (.lload_n 0, 1) := by decide +kernel
theorem dX12_isNumber_9 : decode cX12_isNumber 9 = .ok (.ldc2_w 214, 3) := by decide +kernel
theorem dX12_isNumber_12 : decode cX12_isNumber 12 = .ok (.lcmp, 1) := by decide +kernel
theorem dX12_isNumber_13 : decode cX12_isNumber 13 = .ok (.ifCond .gt 20, 3) := by decide +kernel
theorem dX12_isNumber_16 : decode cX12_isNumber 16 = .ok (.iload_n 2, 1) := by decide +kernel
theorem dX12_isNumber_17 : decode cX12_isNumber 17 = .ok (.sipush (-200), 3) := by decide +kernel
theorem dX12_isNumber_20 : decode cX12_isNumber 20 = .ok (.sipush 200, 3) := by decide +kernel
theorem dX12_isNumber_23 : decode cX12_isNumber 23 = .ok (.invokestatic 109, 3) := by decide +kernel
theorem dX12_isNumber_26 : decode cX12_isNumber 26 = .ok (.ifCond .eq 7, 3) := by decide +kernel
theorem dX12_isNumber_29 : decode cX12_isNumber 29 = .ok (.iconst 1, 1) := by decide +kernel
theorem dX12_isNumber_30 : decode cX12_isNumber 30 = .ok (.goto 4, 3) := by decide +kernel
theorem dX12_isNumber_33 : decode cX12_isNumber 33 = .ok (.iconst 0, 1) := by decide +kernel
theorem dX12_isNumber_34 : decode cX12_isNumber 34 = .ok (.ireturn, 1) := by decide +kernel
def pX12_isNumber (p0 : Int64) (p2 : Int32) : Int32 := if (lg_cmp p0 (-9007199254740992)) < 0 then 0 else if 0 < (lg_cmp p0 9007199254740992) then 0 else if (pX12_within p2 (-200) 200) = 0 then 0 else 1
set_option maxRecDepth 10000 in
set_option maxHeartbeats 4000000 in
theorem pX12_isNumber_ok (G : Gx) (dk : Nat) (hK : 1 ≤ dk) (g : MT) (h0 : CT) (p0 : Int64) (p2 : Int32) : Ctr G dk yX12_isNumber cX12_isNumber 3 (some .boolean) [.long p0, .int p2] g h0 (some (.int (pX12_isNumber p0 p2))) g h0 := by
  obtain ⟨r0, hf⟩ : ∃ z, pX12_isNumber p0 p2 = z := ⟨_, rfl⟩
  rw [hf]
  refine Ctr.ofZ (lv := [(0, .long p0), (2, .int p2)]) (by decide +kernel) (by simp [cat_i, cat_l, cat_d, cat_rf]) rfl fun X Z => ?_
  unfold pX12_isNumber at hf
  refine J_lload_n Z.1 0 dX12_isNumber_0 rfl rfl ?_
  refine J_ldc2 Z.1 q_888 dX12_isNumber_1 ?_
  refine J_lcmp Z.1 dX12_isNumber_4 ?_
  refine J_if_lt Z.1 33 dX12_isNumber_5 (by decide) (fun c1 => ?_) (fun c1 => ?_)
  · rw [if_pos c1] at hf
    refine J_iconst Z.1 (v := 0) (by decide) dX12_isNumber_33 ?_
    cases hf
    exact J_zret Z.1 Z.2.2.2.2.2 (z_n (Or.inl rfl)) dX12_isNumber_34
  · rw [if_neg c1] at hf
    refine J_lload_n Z.1 0 dX12_isNumber_8 rfl rfl ?_
    refine J_ldc2 Z.1 q_889 dX12_isNumber_9 ?_
    refine J_lcmp Z.1 dX12_isNumber_12 ?_
    refine J_if_gt Z.1 33 dX12_isNumber_13 (by decide) (fun c2 => ?_) (fun c2 => ?_)
    · rw [if_pos c2] at hf
      refine J_iconst Z.1 (v := 0) (by decide) dX12_isNumber_33 ?_
      cases hf
      exact J_zret Z.1 Z.2.2.2.2.2 (z_n (Or.inl rfl)) dX12_isNumber_34
    · rw [if_neg c2] at hf
      refine J_iload_n Z.1 1 dX12_isNumber_16 rfl rfl ?_
      refine J_sipush Z.1 (v := (-200)) (by decide) dX12_isNumber_17 ?_
      refine J_sipush Z.1 (v := 200) (by decide) dX12_isNumber_20 ?_
      refine J_callS (as := [.int p2, .int (-200), .int 200]) (rest := []) (sy := [.int (pX12_within p2 (-200) 200)]) Z.1 dX12_isNumber_23 cw_X12_109 (pX12_within_ok G (dk - 1) (by omega) g h0 p2 (-200) 200) (zG Z) rfl (by decide) (zF Z (by omega)) (zO Z (by omega) (by decide)) (zM _) Z.2.1 Z.2.1 rfl rfl ?_
      refine J_if_eq Z.1 33 dX12_isNumber_26 (by decide) (fun c3 => ?_) (fun c3 => ?_)
      · rw [if_pos c3] at hf
        refine J_iconst Z.1 (v := 0) (by decide) dX12_isNumber_33 ?_
        cases hf
        exact J_zret Z.1 Z.2.2.2.2.2 (z_n (Or.inl rfl)) dX12_isNumber_34
      · rw [if_neg c3] at hf
        refine J_iconst Z.1 (v := 1) (by decide) dX12_isNumber_29 ?_
        refine J_goto Z.1 34 dX12_isNumber_30 (by decide) ?_
        cases hf
        exact J_zret Z.1 Z.2.2.2.2.2 (z_n (Or.inr rfl)) dX12_isNumber_34
theorem pX12_isNumber_z (p0 : Int64) (p2 : Int32) : is01 (pX12_isNumber p0 p2) := by
  unfold pX12_isNumber
  (try split) <;> (try split) <;> (try split) <;> (try split) <;> (try split) <;> (try split) <;> (try split) <;> (try split) <;> first | exact Or.inl rfl | exact Or.inr rfl | exact pX12_within_z _ _ _
theorem dX12_wholesaleTrouble_0 : decode cX12_wholesaleTrouble 0 = .ok (.iload_n 2, 1) := by decide +kernel
theorem dX12_wholesaleTrouble_1 : decode cX12_wholesaleTrouble 1 = .ok (.invokestatic 113, 3) := by decide +kernel
theorem dX12_wholesaleTrouble_4 : decode cX12_wholesaleTrouble 4 = .ok (.ifCond .ne 5, 3) := by decide +kernel
theorem dX12_wholesaleTrouble_7 : decode cX12_wholesaleTrouble 7 = .ok (.iconst 1, 1) := by decide +kernel
theorem dX12_wholesaleTrouble_8 : decode cX12_wholesaleTrouble 8 = .ok (.ireturn, 1) := by decide +kernel
theorem dX12_wholesaleTrouble_9 : decode cX12_wholesaleTrouble 9 = .ok (.iload_n 3, 1) := by decide +kernel
theorem dX12_wholesaleTrouble_10 : decode cX12_wholesaleTrouble 10 = .ok (.ifCond .le 20, 3) := by decide +kernel
theorem dX12_wholesaleTrouble_13 : decode cX12_wholesaleTrouble 13 = .ok (.iload_n 1, 1) := by decide +kernel
theorem dX12_wholesaleTrouble_14 : decode cX12_wholesaleTrouble 14 = .ok (.invokestatic 235, 3) := by decide +kernel
theorem dX12_wholesaleTrouble_17 : decode cX12_wholesaleTrouble 17 = .ok (.ifCond .eq 11, 3) := by decide +kernel
theorem dX12_wholesaleTrouble_20 : decode cX12_wholesaleTrouble 20 = .ok (.iload_n 3, 1) := by decide +kernel
theorem dX12_wholesaleTrouble_21 : decode cX12_wholesaleTrouble 21 = .ok (.bipush 64, 2) := by decide +kernel
theorem dX12_wholesaleTrouble_23 : decode cX12_wholesaleTrouble 23 = .ok (.iload_n 1, 1) := by decide +kernel
theorem dX12_wholesaleTrouble_24 : decode cX12_wholesaleTrouble 24 = .ok (.isub, 1) := by decide +kernel
theorem dX12_wholesaleTrouble_25 : decode cX12_wholesaleTrouble 25 = .ok (.if_icmp .le 5, 3) := by decide +kernel
theorem dX12_wholesaleTrouble_28 : decode cX12_wholesaleTrouble 28 = .ok (.iconst 2, 1) := by decide +kernel
theorem dX12_wholesaleTrouble_29 : decode cX12_wholesaleTrouble 29 = .ok (.ireturn, 1) := by decide +kernel
theorem dX12_wholesaleTrouble_30 : decode cX12_wholesaleTrouble 30 = .ok (.aload_n 0, 1) := by decide +kernel
theorem dX12_wholesaleTrouble_31 : decode cX12_wholesaleTrouble 31 = .ok (.getfield 11, 3) := by decide +kernel
theorem dX12_wholesaleTrouble_34 : decode cX12_wholesaleTrouble 34 = .ok (.iload_n 2, 1) := by decide +kernel
theorem dX12_wholesaleTrouble_35 : decode cX12_wholesaleTrouble 35 = .ok (.aaload, 1) := by decide +kernel
theorem dX12_wholesaleTrouble_36 : decode cX12_wholesaleTrouble 36 = .ok (.getfield 128, 3) := by decide +kernel
theorem dX12_wholesaleTrouble_39 : decode cX12_wholesaleTrouble 39 = .ok (.ifCond .ne 5, 3) := by decide +kernel
theorem dX12_wholesaleTrouble_42 : decode cX12_wholesaleTrouble 42 = .ok (.iconst 3, 1) := by decide +kernel
theorem dX12_wholesaleTrouble_43 : decode cX12_wholesaleTrouble 43 = .ok (.ireturn, 1) := by decide +kernel
theorem dX12_wholesaleTrouble_44 : decode cX12_wholesaleTrouble 44 = .ok (.iload_n 3, 1) := by decide +kernel
theorem dX12_wholesaleTrouble_45 : decode cX12_wholesaleTrouble 45 = .ok (.aload_n 0, 1) := by decide +kernel
theorem dX12_wholesaleTrouble_46 : decode cX12_wholesaleTrouble 46 = .ok (.getfield 11, 3) := by decide +kernel
theorem dX12_wholesaleTrouble_49 : decode cX12_wholesaleTrouble 49 = .ok (.iload_n 2, 1) := by decide +kernel
theorem dX12_wholesaleTrouble_50 : decode cX12_wholesaleTrouble 50 = .ok (.aaload, 1) := by decide +kernel
theorem dX12_wholesaleTrouble_51 : decode cX12_wholesaleTrouble 51 = .ok (.getfield 269, 3) := by decide +kernel
theorem dX12_wholesaleTrouble_54 : decode cX12_wholesaleTrouble 54 = .ok (.if_icmp .le 5, 3) := by decide +kernel
theorem dX12_wholesaleTrouble_57 : decode cX12_wholesaleTrouble 57 = .ok (.iconst 4, 1) := by decide +kernel
theorem dX12_wholesaleTrouble_58 : decode cX12_wholesaleTrouble 58 = .ok (.ireturn, 1) := by decide +kernel
theorem dX12_wholesaleTrouble_59 : decode cX12_wholesaleTrouble 59 = .ok (.iload_n 3, 1) := by decide +kernel
theorem dX12_wholesaleTrouble_60 : decode cX12_wholesaleTrouble 60 = .ok (.iconst 0, 1) := by decide +kernel
theorem dX12_wholesaleTrouble_61 : decode cX12_wholesaleTrouble 61 = .ok (.bipush 60, 2) := by decide +kernel
theorem dX12_wholesaleTrouble_63 : decode cX12_wholesaleTrouble 63 = .ok (.invokestatic 109, 3) := by decide +kernel
theorem dX12_wholesaleTrouble_66 : decode cX12_wholesaleTrouble 66 = .ok (.ifCond .eq 7, 3) := by decide +kernel
theorem dX12_wholesaleTrouble_69 : decode cX12_wholesaleTrouble 69 = .ok (.iconst 0, 1) := by decide +kernel
theorem dX12_wholesaleTrouble_70 : decode cX12_wholesaleTrouble 70 = .ok (.goto 4, 3) := by decide +kernel
theorem dX12_wholesaleTrouble_73 : decode cX12_wholesaleTrouble 73 = .ok (.iconst 5, 1) := by decide +kernel
theorem dX12_wholesaleTrouble_74 : decode cX12_wholesaleTrouble 74 = .ok (.ireturn, 1) := by decide +kernel
def pX12_wholesaleTrouble_b30 (g : MT) (h : CT) (this : Nat) (p1 : Int32) (p2 : Int32) (p3 : Int32)  : Option Int32 := lt (hR h this 0) fun r1 => (nn r1 fun a1 => (tg g a1 28 (ix (gL g a1) p2 (lt (hR h a1 (Int32.toNatClampNeg p2)) fun r4 => (nn r4 fun a4 => (tg g a4 10 (if (hI h a4 0) = 0 then some 3 else lt (hR h this 0) fun r7 => (nn r7 fun a7 => (tg g a7 28 (ix (gL g a7) p2 (lt (hR h a7 (Int32.toNatClampNeg p2)) fun r10 => (nn r10 fun a10 => (tg g a10 10 (if p3 ≤ (hI h a10 2) then if (pX12_within p3 0 60) = 0 then some 5 else some 0 else some 4))))))))))))))
set_option maxRecDepth 10000 in
set_option maxHeartbeats 4000000 in
theorem pX12_wholesaleTrouble_b30_ok {X : Cx} {G : Gx} {dk : Nat} {g : MT} {r0 : Int32} {h : CT} {this : Nat} {p1 : Int32} {p2 : Int32} {p3 : Int32} (Z : Zx X G cX12_wholesaleTrouble RX12 4 dk (some .int) (some (.int r0)) g h) (hK : 2 ≤ dk) (t0 : gT g this = 11)  (hf : pX12_wholesaleTrouble_b30 g h this p1 p2 p3 = some r0) : J X g h 30 [(0, va_rf (some this)), (2, .int p2), (3, .int p3)] [] := by
  unfold pX12_wholesaleTrouble_b30 at hf
  refine J_aload_n Z.1 0 dX12_wholesaleTrouble_30 rfl rfl ?_
  refine J_get (v := va_rf (hR h this 0)) Z.1 dX12_wholesaleTrouble_31 fl_X12_11 t0 rfl ?_
  refine J_tr (fun r1 er1 => ?_)
  replace hf := lt_i hf r1 er1
  refine J_iload_n Z.1 1 dX12_wholesaleTrouble_34 rfl rfl ?_
  replace hf := nn_i hf
  obtain ⟨a1, rfl, hf⟩ := hf
  replace hf := tg_i hf
  obtain ⟨t2, hf⟩ := hf
  replace hf := ix_i hf
  obtain ⟨i3, hf⟩ := hf
  refine J_aaload (t := 8) Z.1 dX12_wholesaleTrouble_35 t2 rfl i3 ?_
  refine J_tr (fun r4 er4 => ?_)
  replace hf := lt_i hf r4 er4
  replace hf := nn_i hf
  obtain ⟨a4, rfl, hf⟩ := hf
  replace hf := tg_i hf
  obtain ⟨t5, hf⟩ := hf
  refine J_get (v := .int (hI h a4 0)) Z.1 dX12_wholesaleTrouble_36 fl_X12_128 t5 rfl ?_
  refine J_if_ne Z.1 44 dX12_wholesaleTrouble_39 (by decide) (fun c6 => ?_) (fun c6 => ?_)
  · rw [if_neg c6] at hf
    refine J_iload_n Z.1 2 dX12_wholesaleTrouble_44 rfl rfl ?_
    refine J_aload_n Z.1 0 dX12_wholesaleTrouble_45 rfl rfl ?_
    refine J_get (v := va_rf (hR h this 0)) Z.1 dX12_wholesaleTrouble_46 fl_X12_11 t0 rfl ?_
    refine J_tr (fun r7 er7 => ?_)
    replace hf := lt_i hf r7 er7
    refine J_iload_n Z.1 1 dX12_wholesaleTrouble_49 rfl rfl ?_
    replace hf := nn_i hf
    obtain ⟨a7, rfl, hf⟩ := hf
    replace hf := tg_i hf
    obtain ⟨t8, hf⟩ := hf
    replace hf := ix_i hf
    obtain ⟨i9, hf⟩ := hf
    refine J_aaload (t := 8) Z.1 dX12_wholesaleTrouble_50 t8 rfl i9 ?_
    refine J_tr (fun r10 er10 => ?_)
    replace hf := lt_i hf r10 er10
    replace hf := nn_i hf
    obtain ⟨a10, rfl, hf⟩ := hf
    replace hf := tg_i hf
    obtain ⟨t11, hf⟩ := hf
    refine J_get (v := .int (hI h a10 2)) Z.1 dX12_wholesaleTrouble_51 fl_X12_269 t11 rfl ?_
    refine J_icmp_le Z.1 59 dX12_wholesaleTrouble_54 (by decide) (fun c12 => ?_) (fun c12 => ?_)
    · rw [if_pos c12] at hf
      refine J_iload_n Z.1 2 dX12_wholesaleTrouble_59 rfl rfl ?_
      refine J_iconst Z.1 (v := 0) (by decide) dX12_wholesaleTrouble_60 ?_
      refine J_bipush Z.1 (v := 60) (by decide) dX12_wholesaleTrouble_61 ?_
      refine J_callS (as := [.int p3, .int 0, .int 60]) (rest := []) (sy := [.int (pX12_within p3 0 60)]) Z.1 dX12_wholesaleTrouble_63 cw_X12_109 (pX12_within_ok G (dk - 1) (by omega) g h p3 0 60) (zG Z) rfl (by decide) (zF Z (by omega)) (zO Z (by omega) (by decide)) (zM _) Z.2.1 Z.2.1 rfl rfl ?_
      refine J_if_eq Z.1 73 dX12_wholesaleTrouble_66 (by decide) (fun c13 => ?_) (fun c13 => ?_)
      · rw [if_pos c13] at hf
        refine J_iconst Z.1 (v := 5) (by decide) dX12_wholesaleTrouble_73 ?_
        cases hf
        exact J_iret Z.1 Z.2.2.2.2.2 dX12_wholesaleTrouble_74
      · rw [if_neg c13] at hf
        refine J_iconst Z.1 (v := 0) (by decide) dX12_wholesaleTrouble_69 ?_
        refine J_goto Z.1 74 dX12_wholesaleTrouble_70 (by decide) ?_
        cases hf
        exact J_iret Z.1 Z.2.2.2.2.2 dX12_wholesaleTrouble_74
    · rw [if_neg c12] at hf
      refine J_iconst Z.1 (v := 4) (by decide) dX12_wholesaleTrouble_57 ?_
      cases hf
      exact J_iret Z.1 Z.2.2.2.2.2 dX12_wholesaleTrouble_58
  · rw [if_pos c6] at hf
    refine J_iconst Z.1 (v := 3) (by decide) dX12_wholesaleTrouble_42 ?_
    cases hf
    exact J_iret Z.1 Z.2.2.2.2.2 dX12_wholesaleTrouble_43
def pX12_wholesaleTrouble (g : MT) (h : CT) (this : Nat) (p1 : Int32) (p2 : Int32) (p3 : Int32) : Option Int32 := tg g this 11 (if (pX12_isTray p2) = 0 then some 1 else if p3 ≤ 0 then pX12_wholesaleTrouble_b30 g h this p1 p2 p3   else if (pX12_isWord p1) = 0 then some 2 else if p3 ≤ (64 - p1) then pX12_wholesaleTrouble_b30 g h this p1 p2 p3   else some 2)
set_option maxRecDepth 10000 in
set_option maxHeartbeats 4000000 in
theorem pX12_wholesaleTrouble_ok (G : Gx) (dk : Nat) (hK : 2 ≤ dk) {g : MT} {h : CT} {this : Nat} {p1 : Int32} {p2 : Int32} {p3 : Int32} {r0 : Int32} (hf : pX12_wholesaleTrouble g h this p1 p2 p3 = some r0) : Ctr G dk yX12_wholesaleTrouble cX12_wholesaleTrouble 4 (some .int) [va_rf (some this), .int p1, .int p2, .int p3] g h (some (.int r0)) g h := by
  refine Ctr.ofZ (lv := [(0, va_rf (some this)), (1, .int p1), (2, .int p2), (3, .int p3)]) (by decide +kernel) (by simp [cat_i, cat_l, cat_d, cat_rf]) rfl fun X Z => ?_
  unfold pX12_wholesaleTrouble at hf
  replace hf := tg_i hf
  obtain ⟨t0, hf⟩ := hf
  refine J_iload_n Z.1 2 dX12_wholesaleTrouble_0 rfl rfl ?_
  refine J_callS (as := [.int p2]) (rest := []) (sy := [.int (pX12_isTray p2)]) Z.1 dX12_wholesaleTrouble_1 cw_X12_113 (pX12_isTray_ok G (dk - 1) (by omega) g h p2) (zG Z) rfl (by decide) (zF Z (by omega)) (zO Z (by omega) (by decide)) (zM _) Z.2.1 Z.2.1 rfl rfl ?_
  refine J_if_ne Z.1 9 dX12_wholesaleTrouble_4 (by decide) (fun c1 => ?_) (fun c1 => ?_)
  · rw [if_neg c1] at hf
    refine J_iload_n Z.1 3 dX12_wholesaleTrouble_9 rfl rfl ?_
    refine J_if_le Z.1 30 dX12_wholesaleTrouble_10 (by decide) (fun c2 => ?_) (fun c2 => ?_)
    · rw [if_pos c2] at hf
      refine J_lv [0, 2, 3] rfl ?_
      exact pX12_wholesaleTrouble_b30_ok Z hK t0   hf
    · rw [if_neg c2] at hf
      refine J_iload_n Z.1 1 dX12_wholesaleTrouble_13 rfl rfl ?_
      refine J_callS (as := [.int p1]) (rest := []) (sy := [.int (pX12_isWord p1)]) Z.1 dX12_wholesaleTrouble_14 cw_X12_235 (pX12_isWord_ok G (dk - 1) (by omega) g h p1) (zG Z) rfl (by decide) (zF Z (by omega)) (zO Z (by omega) (by decide)) (zM _) Z.2.1 Z.2.1 rfl rfl ?_
      refine J_if_eq Z.1 28 dX12_wholesaleTrouble_17 (by decide) (fun c3 => ?_) (fun c3 => ?_)
      · rw [if_pos c3] at hf
        refine J_iconst Z.1 (v := 2) (by decide) dX12_wholesaleTrouble_28 ?_
        cases hf
        exact J_iret Z.1 Z.2.2.2.2.2 dX12_wholesaleTrouble_29
      · rw [if_neg c3] at hf
        refine J_iload_n Z.1 3 dX12_wholesaleTrouble_20 rfl rfl ?_
        refine J_bipush Z.1 (v := 64) (by decide) dX12_wholesaleTrouble_21 ?_
        refine J_iload_n Z.1 1 dX12_wholesaleTrouble_23 rfl rfl ?_
        refine J_isub Z.1 dX12_wholesaleTrouble_24 ?_
        refine J_icmp_le Z.1 30 dX12_wholesaleTrouble_25 (by decide) (fun c4 => ?_) (fun c4 => ?_)
        · rw [if_pos c4] at hf
          refine J_lv [0, 2, 3] rfl ?_
          exact pX12_wholesaleTrouble_b30_ok Z hK t0   hf
        · rw [if_neg c4] at hf
          refine J_iconst Z.1 (v := 2) (by decide) dX12_wholesaleTrouble_28 ?_
          cases hf
          exact J_iret Z.1 Z.2.2.2.2.2 dX12_wholesaleTrouble_29
  · rw [if_pos c1] at hf
    refine J_iconst Z.1 (v := 1) (by decide) dX12_wholesaleTrouble_7 ?_
    cases hf
    exact J_iret Z.1 Z.2.2.2.2.2 dX12_wholesaleTrouble_8
theorem dX12_pokeAll_0 : decode cX12_pokeAll 0 = .ok (.aload_n 0, 1) := by decide +kernel
theorem dX12_pokeAll_1 : decode cX12_pokeAll 1 = .ok (.iload_n 1, 1) := by decide +kernel
theorem dX12_pokeAll_2 : decode cX12_pokeAll 2 = .ok (.iload_n 2, 1) := by decide +kernel
theorem dX12_pokeAll_3 : decode cX12_pokeAll 3 = .ok (.iload_n 3, 1) := by decide +kernel
theorem dX12_pokeAll_4 : decode cX12_pokeAll 4 = .ok (.invokevirtual 272, 3) := by decide +kernel
theorem dX12_pokeAll_7 : decode cX12_pokeAll 7 = .ok (.istore 4, 2) := by decide +kernel
theorem dX12_pokeAll_9 : decode cX12_pokeAll 9 = .ok (.iload 4, 2) := by decide +kernel
theorem dX12_pokeAll_11 : decode cX12_pokeAll 11 = .ok (.ifCond .eq 10, 3) := by decide +kernel
theorem dX12_pokeAll_14 : decode cX12_pokeAll 14 = .ok (.aload_n 0, 1) := by decide +kernel
theorem dX12_pokeAll_15 : decode cX12_pokeAll 15 = .ok (.iload 4, 2) := by decide +kernel
theorem dX12_pokeAll_17 : decode cX12_pokeAll 17 = .ok (.invokevirtual 143, 3) := by decide +kernel
theorem dX12_pokeAll_20 : decode cX12_pokeAll 20 = .ok (.ireturn, 1) := by decide +kernel
theorem dX12_pokeAll_21 : decode cX12_pokeAll 21 = .ok (.iconst 0, 1) := by decide +kernel
theorem dX12_pokeAll_22 : decode cX12_pokeAll 22 = .ok (.istore 5, 2) := by decide +kernel
theorem dX12_pokeAll_24 : decode cX12_pokeAll 24 = .ok (.iload 5, 2) := by decide +kernel
theorem dX12_pokeAll_26 : decode cX12_pokeAll 26 = .ok (.iload_n 3, 1) := by decide +kernel
theorem dX12_pokeAll_27 : decode cX12_pokeAll 27 = .ok (.if_icmp .ge 46, 3) := by decide +kernel
theorem dX12_pokeAll_30 : decode cX12_pokeAll 30 = .ok (.aload_n 0, 1) := by decide +kernel
theorem dX12_pokeAll_31 : decode cX12_pokeAll 31 = .ok (.getfield 84, 3) := by decide +kernel
theorem dX12_pokeAll_34 : decode cX12_pokeAll 34 = .ok (.aload_n 0, 1) := by decide +kernel
theorem dX12_pokeAll_35 : decode cX12_pokeAll 35 = .ok (.getfield 11, 3) := by decide +kernel
theorem dX12_pokeAll_38 : decode cX12_pokeAll 38 = .ok (.iload_n 2, 1) := by decide +kernel
theorem dX12_pokeAll_39 : decode cX12_pokeAll 39 = .ok (.aaload, 1) := by decide +kernel
theorem dX12_pokeAll_40 : decode cX12_pokeAll 40 = .ok (.iload 5, 2) := by decide +kernel
theorem dX12_pokeAll_42 : decode cX12_pokeAll 42 = .ok (.invokevirtual 146, 3) := by decide +kernel
theorem dX12_pokeAll_45 : decode cX12_pokeAll 45 = .ok (.l2d, 1) := by decide +kernel
theorem dX12_pokeAll_46 : decode cX12_pokeAll 46 = .ok (.invokevirtual 249, 3) := by decide +kernel
theorem dX12_pokeAll_49 : decode cX12_pokeAll 49 = .ok (.aload_n 0, 1) := by decide +kernel
theorem dX12_pokeAll_50 : decode cX12_pokeAll 50 = .ok (.getfield 30, 3) := by decide +kernel
theorem dX12_pokeAll_53 : decode cX12_pokeAll 53 = .ok (.getfield 238, 3) := by decide +kernel
theorem dX12_pokeAll_56 : decode cX12_pokeAll 56 = .ok (.iload_n 1, 1) := by decide +kernel
theorem dX12_pokeAll_57 : decode cX12_pokeAll 57 = .ok (.iload 5, 2) := by decide +kernel
theorem dX12_pokeAll_59 : decode cX12_pokeAll 59 = .ok (.iadd, 1) := by decide +kernel
theorem dX12_pokeAll_60 : decode cX12_pokeAll 60 = .ok (.aload_n 0, 1) := by decide +kernel
theorem dX12_pokeAll_61 : decode cX12_pokeAll 61 = .ok (.getfield 84, 3) := by decide +kernel
theorem dX12_pokeAll_64 : decode cX12_pokeAll 64 = .ok (.invokevirtual 261, 3) := by decide +kernel
theorem dX12_pokeAll_67 : decode cX12_pokeAll 67 = .ok (.iinc 5 1, 3) := by decide +kernel
theorem dX12_pokeAll_70 : decode cX12_pokeAll 70 = .ok (.goto (-46), 3) := by decide +kernel
theorem dX12_pokeAll_73 : decode cX12_pokeAll 73 = .ok (.aload_n 0, 1) := by decide +kernel
theorem dX12_pokeAll_74 : decode cX12_pokeAll 74 = .ok (.iload_n 3, 1) := by decide +kernel
theorem dX12_pokeAll_75 : decode cX12_pokeAll 75 = .ok (.invokevirtual 105, 3) := by decide +kernel
theorem dX12_pokeAll_78 : decode cX12_pokeAll 78 = .ok (.ireturn, 1) := by decide +kernel
def pX12_pokeAll_b24 (g : MT) (this : Nat) (p1 : Int32) (p2 : Int32) (p3 : Int32) (k24 : Int32 → CT → Option ((Int32) × CT)) (l5 : Int32) (h : CT) : Option ((Int32) × CT) := if p3 ≤ l5 then bd2 (pX12_answer g h this p3) fun x4 h2 => (some (x4, h2)) else lt (hR h this 17) fun r5 => (lt (hR h this 0) fun r6 => (nn r6 fun a6 => (tg g a6 28 (ix (gL g a6) p2 (lt (hR h a6 (Int32.toNatClampNeg p2)) fun r9 => (nn r9 fun a9 => (tg g a9 10 (bd (pX11_fetch g h a9 l5) fun x11 => (nn r5 fun a5 => (tg g a5 4 (bd (pX4_set g h a5 (fl2d x11)) fun h14 => (lt (hR h14 this 4) fun r16 => (nn r16 fun a16 => (tg g a16 3 (lt (hR h14 a16 3) fun r18 => (lt (hR h14 this 17) fun r19 => (nn r18 fun a18 => (tg g a18 7 (nn r19 fun a19 => (bd (pX8_keep g h14 a18 (p1 + l5) a19) fun h21 => (lt (l5 + 1) fun x23 => (k24 x23 h21))))))))))))))))))))))
set_option maxRecDepth 10000 in
set_option maxHeartbeats 4000000 in
theorem pX12_pokeAll_b24_ok {X : Cx} {G : Gx} {dk : Nat} {g : MT} {r0 : Int32} {h0 : CT} {this : Nat} {p1 : Int32} {p2 : Int32} {p3 : Int32} {k24 : Int32 → CT → Option ((Int32) × CT)} (Z : Zx X G cX12_pokeAll RX12 6 dk (some .int) (some (.int r0)) g h0) (hK : 3 ≤ dk) (t0 : gT g this = 11) (hk24 : ∀ (l5 : Int32) (h : CT), k24 l5 h = some (r0, h0) → J X g h 24 [(0, va_rf (some this)), (1, .int p1), (2, .int p2), (3, .int p3), (5, .int l5)] []) (l5 : Int32) (h : CT) (hf : pX12_pokeAll_b24 g this p1 p2 p3 k24 l5 h = some (r0, h0)) : J X g h 24 [(0, va_rf (some this)), (1, .int p1), (2, .int p2), (3, .int p3), (5, .int l5)] [] := by
  unfold pX12_pokeAll_b24 at hf
  refine J_iload Z.1 4 dX12_pokeAll_24 rfl ?_
  refine J_iload_n Z.1 3 dX12_pokeAll_26 rfl rfl ?_
  refine J_icmp_ge Z.1 73 dX12_pokeAll_27 (by decide) (fun c1 => ?_) (fun c1 => ?_)
  · rw [if_pos c1] at hf
    refine J_aload_n Z.1 0 dX12_pokeAll_73 rfl rfl ?_
    refine J_iload_n Z.1 3 dX12_pokeAll_74 rfl rfl ?_
    replace hf := bd2_i hf
    obtain ⟨x4, h2, q3, hf⟩ := hf
    refine J_callV (ci := 10) (as := [.int p3]) (rest := []) (sy := [.int x4]) Z.1 dX12_pokeAll_75 cw_X12_105 (pX12_answer_ok G (dk - 1) (by omega) q3) rfl rfl t0 (zG Z) rfl (by decide) (zF Z (by omega)) (zO Z (by omega) (by decide)) (zM _) Z.2.1 Z.2.1 rfl rfl ?_
    cases hf
    exact J_iret Z.1 Z.2.2.2.2.2 dX12_pokeAll_78
  · rw [if_neg c1] at hf
    refine J_aload_n Z.1 0 dX12_pokeAll_30 rfl rfl ?_
    refine J_get (v := va_rf (hR h this 17)) Z.1 dX12_pokeAll_31 fl_X12_84 t0 rfl ?_
    refine J_tr (fun r5 er5 => ?_)
    replace hf := lt_i hf r5 er5
    refine J_aload_n Z.1 0 dX12_pokeAll_34 rfl rfl ?_
    refine J_get (v := va_rf (hR h this 0)) Z.1 dX12_pokeAll_35 fl_X12_11 t0 rfl ?_
    refine J_tr (fun r6 er6 => ?_)
    replace hf := lt_i hf r6 er6
    refine J_iload_n Z.1 2 dX12_pokeAll_38 rfl rfl ?_
    replace hf := nn_i hf
    obtain ⟨a6, rfl, hf⟩ := hf
    replace hf := tg_i hf
    obtain ⟨t7, hf⟩ := hf
    replace hf := ix_i hf
    obtain ⟨i8, hf⟩ := hf
    refine J_aaload (t := 8) Z.1 dX12_pokeAll_39 t7 rfl i8 ?_
    refine J_tr (fun r9 er9 => ?_)
    replace hf := lt_i hf r9 er9
    refine J_iload Z.1 4 dX12_pokeAll_40 rfl ?_
    replace hf := nn_i hf
    obtain ⟨a9, rfl, hf⟩ := hf
    replace hf := tg_i hf
    obtain ⟨t10, hf⟩ := hf
    replace hf := bd_i hf
    obtain ⟨x11, q12, hf⟩ := hf
    refine J_callV (ci := 9) (as := [.int l5]) (rest := [va_rf r5]) (sy := [.long x11, va_rf r5]) Z.1 dX12_pokeAll_42 cw_X12_146 (pX11_fetch_ok G (dk - 1) (by omega) q12) rfl rfl t10 (zG Z) rfl (by simp [cat_i, cat_l, cat_d, cat_rf]) (zF Z (by omega)) (zO Z (by omega) (by decide)) (zM _) Z.2.1 Z.2.1 rfl rfl ?_
    refine J_l2d Z.1 dX12_pokeAll_45 ?_
    replace hf := nn_i hf
    obtain ⟨a5, rfl, hf⟩ := hf
    replace hf := tg_i hf
    obtain ⟨t13, hf⟩ := hf
    replace hf := bd_i hf
    obtain ⟨h14, q15, hf⟩ := hf
    refine J_callV (ci := 3) (as := [.double (fl2d x11)]) (rest := []) (sy := []) Z.1 dX12_pokeAll_46 cw_X12_249 (pX4_set_ok G (dk - 1) (by omega) q15) rfl rfl t13 (zG Z) rfl (by decide) (zF Z (by omega)) (zO Z (by omega) (by decide)) (zM _) Z.2.1 Z.2.1 rfl rfl ?_
    refine J_aload_n Z.1 0 dX12_pokeAll_49 rfl rfl ?_
    refine J_get (v := va_rf (hR h14 this 4)) Z.1 dX12_pokeAll_50 fl_X12_30 t0 rfl ?_
    refine J_tr (fun r16 er16 => ?_)
    replace hf := lt_i hf r16 er16
    replace hf := nn_i hf
    obtain ⟨a16, rfl, hf⟩ := hf
    replace hf := tg_i hf
    obtain ⟨t17, hf⟩ := hf
    refine J_get (v := va_rf (hR h14 a16 3)) Z.1 dX12_pokeAll_53 fl_X12_238 t17 rfl ?_
    refine J_tr (fun r18 er18 => ?_)
    replace hf := lt_i hf r18 er18
    refine J_iload_n Z.1 1 dX12_pokeAll_56 rfl rfl ?_
    refine J_iload Z.1 4 dX12_pokeAll_57 rfl ?_
    refine J_iadd Z.1 dX12_pokeAll_59 ?_
    refine J_aload_n Z.1 0 dX12_pokeAll_60 rfl rfl ?_
    refine J_get (v := va_rf (hR h14 this 17)) Z.1 dX12_pokeAll_61 fl_X12_84 t0 rfl ?_
    refine J_tr (fun r19 er19 => ?_)
    replace hf := lt_i hf r19 er19
    replace hf := nn_i hf
    obtain ⟨a18, rfl, hf⟩ := hf
    replace hf := tg_i hf
    obtain ⟨t20, hf⟩ := hf
    replace hf := nn_i hf
    obtain ⟨a19, rfl, hf⟩ := hf
    replace hf := bd_i hf
    obtain ⟨h21, q22, hf⟩ := hf
    refine J_callV (ci := 6) (as := [.int (p1 + l5), va_rf (some a19)]) (rest := []) (sy := []) Z.1 dX12_pokeAll_64 cw_X12_261 (pX8_keep_ok G (dk - 1) (by omega) q22) rfl rfl t20 (zG Z) rfl (by decide) (zF Z (by omega)) (zO Z (by omega) (by decide)) (zM _) Z.2.1 Z.2.1 rfl rfl ?_
    refine J_iinc Z.1 (v := 1) (lv2 := [(5, .int (l5 + 1)), (0, va_rf (some this)), (1, .int p1), (2, .int p2), (3, .int p3)]) 4 dX12_pokeAll_67 rfl (by decide) (zL Z (by decide)) rfl ?_
    obtain ⟨x23, ex23⟩ : ∃ z, z = (l5 + 1) := ⟨_, rfl⟩
    replace hf := lt_i hf x23 ex23
    rw [← ex23]
    refine J_goto Z.1 24 dX12_pokeAll_70 (by decide) ?_
    refine J_lv [1, 2, 3, 4, 0] rfl ?_
    exact hk24 _ _ hf
def pX12_pokeAll_l24 (g : MT) (this : Nat) (p1 : Int32) (p2 : Int32) (p3 : Int32) : Nat → Int32 → CT → Option ((Int32) × CT)
  | 0, _, _ => none
  | n + 1, l5, h => pX12_pokeAll_b24 g this p1 p2 p3 (pX12_pokeAll_l24 g this p1 p2 p3 n) l5 h
theorem pX12_pokeAll_l24_ok {X : Cx} {G : Gx} {dk : Nat} {g : MT} {r0 : Int32} {h0 : CT} {this : Nat} {p1 : Int32} {p2 : Int32} {p3 : Int32} (Z : Zx X G cX12_pokeAll RX12 6 dk (some .int) (some (.int r0)) g h0) (hK : 3 ≤ dk) (t0 : gT g this = 11) : ∀ (n : Nat) (l5 : Int32) (h : CT), pX12_pokeAll_l24 g this p1 p2 p3 n l5 h = some (r0, h0) → J X g h 24 [(0, va_rf (some this)), (1, .int p1), (2, .int p2), (3, .int p3), (5, .int l5)] [] := by
  intro n
  induction n with
  | zero => intro l5 h hf; cases hf
  | succ n ih => intro l5 h hf; exact pX12_pokeAll_b24_ok Z hK t0 ih l5 h hf
def pX12_pokeAll (g : MT) (h : CT) (this : Nat) (p1 : Int32) (p2 : Int32) (p3 : Int32) : Option ((Int32) × CT) := tg g this 11 (bd (pX12_wholesaleTrouble g h this p1 p2 p3) fun x1 => (if x1 = 0 then pX12_pokeAll_l24 g this p1 p2 p3  FUEL 0 h else bd2 (pX12_refuse g h this x1) fun x6 h4 => (some (x6, h4))))
set_option maxRecDepth 10000 in
set_option maxHeartbeats 4000000 in
theorem pX12_pokeAll_ok (G : Gx) (dk : Nat) (hK : 3 ≤ dk) {g : MT} {h h0 : CT} {this : Nat} {p1 : Int32} {p2 : Int32} {p3 : Int32} {r0 : Int32} (hf : pX12_pokeAll g h this p1 p2 p3 = some (r0, h0)) : Ctr G dk yX12_pokeAll cX12_pokeAll 6 (some .int) [va_rf (some this), .int p1, .int p2, .int p3] g h (some (.int r0)) g h0 := by
  refine Ctr.ofZ (lv := [(0, va_rf (some this)), (1, .int p1), (2, .int p2), (3, .int p3)]) (by decide +kernel) (by simp [cat_i, cat_l, cat_d, cat_rf]) rfl fun X Z => ?_
  unfold pX12_pokeAll at hf
  replace hf := tg_i hf
  obtain ⟨t0, hf⟩ := hf
  refine J_aload_n Z.1 0 dX12_pokeAll_0 rfl rfl ?_
  refine J_iload_n Z.1 1 dX12_pokeAll_1 rfl rfl ?_
  refine J_iload_n Z.1 2 dX12_pokeAll_2 rfl rfl ?_
  refine J_iload_n Z.1 3 dX12_pokeAll_3 rfl rfl ?_
  replace hf := bd_i hf
  obtain ⟨x1, q2, hf⟩ := hf
  refine J_callV (ci := 10) (as := [.int p1, .int p2, .int p3]) (rest := []) (sy := [.int x1]) Z.1 dX12_pokeAll_4 cw_X12_272 (pX12_wholesaleTrouble_ok G (dk - 1) (by omega) q2) rfl rfl t0 (zG Z) rfl (by decide) (zF Z (by omega)) (zO Z (by omega) (by decide)) (zM _) Z.2.1 Z.2.1 rfl rfl ?_
  refine J_istore Z.1 (lv2 := [(4, .int x1), (0, va_rf (some this)), (1, .int p1), (2, .int p2), (3, .int p3)]) dX12_pokeAll_7 (zL Z (by decide)) rfl ?_
  refine J_iload Z.1 0 dX12_pokeAll_9 rfl ?_
  refine J_if_eq Z.1 21 dX12_pokeAll_11 (by decide) (fun c3 => ?_) (fun c3 => ?_)
  · rw [if_pos c3] at hf
    refine J_iconst Z.1 (v := 0) (by decide) dX12_pokeAll_21 ?_
    refine J_istore Z.1 (lv2 := [(5, .int 0), (4, .int x1), (0, va_rf (some this)), (1, .int p1), (2, .int p2), (3, .int p3)]) dX12_pokeAll_22 (zL Z (by decide)) rfl ?_
    refine J_lv [2, 3, 4, 5, 0] rfl ?_
    exact pX12_pokeAll_l24_ok Z hK t0  FUEL _ _ hf
  · rw [if_neg c3] at hf
    refine J_aload_n Z.1 1 dX12_pokeAll_14 rfl rfl ?_
    refine J_iload Z.1 0 dX12_pokeAll_15 rfl ?_
    replace hf := bd2_i hf
    obtain ⟨x6, h4, q5, hf⟩ := hf
    refine J_callV (ci := 10) (as := [.int x1]) (rest := []) (sy := [.int x6]) Z.1 dX12_pokeAll_17 cw_X12_143 (pX12_refuse_ok G (dk - 1) (by omega) q5) rfl rfl t0 (zG Z) rfl (by decide) (zF Z (by omega)) (zO Z (by omega) (by decide)) (zM _) Z.2.1 Z.2.1 rfl rfl ?_
    cases hf
    exact J_iret Z.1 Z.2.2.2.2.2 dX12_pokeAll_20
theorem dX12_drop_0 : decode cX12_drop 0 = .ok (.aload_n 0, 1) := by decide +kernel
theorem dX12_drop_1 : decode cX12_drop 1 = .ok (.iload_n 1, 1) := by decide +kernel
theorem dX12_drop_2 : decode cX12_drop 2 = .ok (.invokevirtual 216, 3) := by decide +kernel
theorem dX12_drop_5 : decode cX12_drop 5 = .ok (.istore_n 2, 1) := by decide +kernel
theorem dX12_drop_6 : decode cX12_drop 6 = .ok (.iload_n 2, 1) := by decide +kernel
theorem dX12_drop_7 : decode cX12_drop 7 = .ok (.ifCond .eq 9, 3) := by decide +kernel
theorem dX12_drop_10 : decode cX12_drop 10 = .ok (.aload_n 0, 1) := by decide +kernel
theorem dX12_drop_11 : decode cX12_drop 11 = .ok (.iload_n 2, 1) := by decide +kernel
theorem dX12_drop_12 : decode cX12_drop 12 = .ok (.invokevirtual 117, 3) := by decide +kernel
theorem dX12_drop_15 : decode cX12_drop 15 = .ok (.ireturn, 1) := by decide +kernel
theorem dX12_drop_16 : decode cX12_drop 16 = .ok (.aload_n 0, 1) := by decide +kernel
theorem dX12_drop_17 : decode cX12_drop 17 = .ok (.getfield 30, 3) := by decide +kernel
theorem dX12_drop_20 : decode cX12_drop 20 = .ok (.getfield 209, 3) := by decide +kernel
theorem dX12_drop_23 : decode cX12_drop 23 = .ok (.iload_n 1, 1) := by decide +kernel
theorem dX12_drop_24 : decode cX12_drop 24 = .ok (.iconst 0, 1) := by decide +kernel
theorem dX12_drop_25 : decode cX12_drop 25 = .ok (.bastore, 1) := by decide +kernel
theorem dX12_drop_26 : decode cX12_drop 26 = .ok (.aload_n 0, 1) := by decide +kernel
theorem dX12_drop_27 : decode cX12_drop 27 = .ok (.invokevirtual 124, 3) := by decide +kernel
theorem dX12_drop_30 : decode cX12_drop 30 = .ok (.ireturn, 1) := by decide +kernel
def pX12_drop (g : MT) (h : CT) (this : Nat) (p1 : Int32) : Option ((Int32) × CT) := tg g this 11 (bd (pX12_rowTrouble g h this p1) fun x1 => (if x1 = 0 then lt (hR h this 4) fun r4 => (nn r4 fun a4 => (tg g a4 3 (lt (hR h a4 1) fun r6 => (nn r6 fun a6 => (tg g a6 24 (ix (gL g a6) p1 (lt (sI h a6 (Int32.toNatClampNeg p1) (vp_nar .boolean 0)) fun h9 => (bd2 (pX12_agree g h9 this) fun x12 h10 => (bz x12 (some (x12, h10))))))))))) else bd2 (pX12_deny g h this x1) fun x16 h14 => (bz x16 (some (x16, h14)))))
set_option maxRecDepth 10000 in
set_option maxHeartbeats 4000000 in
theorem pX12_drop_ok (G : Gx) (dk : Nat) (hK : 2 ≤ dk) {g : MT} {h h0 : CT} {this : Nat} {p1 : Int32} {r0 : Int32} (hf : pX12_drop g h this p1 = some (r0, h0)) : Ctr G dk yX12_drop cX12_drop 3 (some .boolean) [va_rf (some this), .int p1] g h (some (.int r0)) g h0 := by
  refine Ctr.ofZ (lv := [(0, va_rf (some this)), (1, .int p1)]) (by decide +kernel) (by simp [cat_i, cat_l, cat_d, cat_rf]) rfl fun X Z => ?_
  unfold pX12_drop at hf
  replace hf := tg_i hf
  obtain ⟨t0, hf⟩ := hf
  refine J_aload_n Z.1 0 dX12_drop_0 rfl rfl ?_
  refine J_iload_n Z.1 1 dX12_drop_1 rfl rfl ?_
  replace hf := bd_i hf
  obtain ⟨x1, q2, hf⟩ := hf
  refine J_callV (ci := 10) (as := [.int p1]) (rest := []) (sy := [.int x1]) Z.1 dX12_drop_2 cw_X12_216 (pX12_rowTrouble_ok G (dk - 1) (by omega) q2) rfl rfl t0 (zG Z) rfl (by decide) (zF Z (by omega)) (zO Z (by omega) (by decide)) (zM _) Z.2.1 Z.2.1 rfl rfl ?_
  refine J_istore_n Z.1 (lv2 := [(2, .int x1), (0, va_rf (some this)), (1, .int p1)]) dX12_drop_5 rfl (zL Z (by decide)) rfl ?_
  refine J_iload_n Z.1 0 dX12_drop_6 rfl rfl ?_
  refine J_if_eq Z.1 16 dX12_drop_7 (by decide) (fun c3 => ?_) (fun c3 => ?_)
  · rw [if_pos c3] at hf
    refine J_aload_n Z.1 1 dX12_drop_16 rfl rfl ?_
    refine J_get (v := va_rf (hR h this 4)) Z.1 dX12_drop_17 fl_X12_30 t0 rfl ?_
    refine J_tr (fun r4 er4 => ?_)
    replace hf := lt_i hf r4 er4
    replace hf := nn_i hf
    obtain ⟨a4, rfl, hf⟩ := hf
    replace hf := tg_i hf
    obtain ⟨t5, hf⟩ := hf
    refine J_get (v := va_rf (hR h a4 1)) Z.1 dX12_drop_20 fl_X12_209 t5 rfl ?_
    refine J_tr (fun r6 er6 => ?_)
    replace hf := lt_i hf r6 er6
    refine J_iload_n Z.1 2 dX12_drop_23 rfl rfl ?_
    refine J_iconst Z.1 (v := 0) (by decide) dX12_drop_24 ?_
    replace hf := nn_i hf
    obtain ⟨a6, rfl, hf⟩ := hf
    replace hf := tg_i hf
    obtain ⟨t7, hf⟩ := hf
    replace hf := ix_i hf
    obtain ⟨i8, hf⟩ := hf
    refine J_zastore Z.1 dX12_drop_25 t7 i8 ?_
    refine J_th (fun h9 eh9 => ?_)
    replace hf := lt_i hf h9 eh9
    refine J_aload_n Z.1 1 dX12_drop_26 rfl rfl ?_
    replace hf := bd2_i hf
    obtain ⟨x12, h10, q11, hf⟩ := hf
    refine J_callV (ci := 10) (as := []) (rest := []) (sy := [.int x12]) Z.1 dX12_drop_27 cw_X12_124 (pX12_agree_ok G (dk - 1) (by omega) q11) rfl rfl t0 (zG Z) rfl (by decide) (zF Z (by omega)) (zO Z (by omega) (by decide)) (zM _) Z.2.1 Z.2.1 rfl rfl ?_
    replace hf := bz_i hf
    obtain ⟨z13, hf⟩ := hf
    cases hf
    exact J_zret Z.1 Z.2.2.2.2.2 (z_n z13) dX12_drop_30
  · rw [if_neg c3] at hf
    refine J_aload_n Z.1 1 dX12_drop_10 rfl rfl ?_
    refine J_iload_n Z.1 0 dX12_drop_11 rfl rfl ?_
    replace hf := bd2_i hf
    obtain ⟨x16, h14, q15, hf⟩ := hf
    refine J_callV (ci := 10) (as := [.int x1]) (rest := []) (sy := [.int x16]) Z.1 dX12_drop_12 cw_X12_117 (pX12_deny_ok G (dk - 1) (by omega) q15) rfl rfl t0 (zG Z) rfl (by decide) (zF Z (by omega)) (zO Z (by omega) (by decide)) (zM _) Z.2.1 Z.2.1 rfl rfl ?_
    replace hf := bz_i hf
    obtain ⟨z17, hf⟩ := hf
    cases hf
    exact J_zret Z.1 Z.2.2.2.2.2 (z_n z17) dX12_drop_15
theorem dX12_rule_0 : decode cX12_rule 0 = .ok (.iload_n 1, 1) := by decide +kernel
theorem dX12_rule_1 : decode cX12_rule 1 = .ok (.ifCond .ne 24, 3) := by decide +kernel
theorem dX12_rule_4 : decode cX12_rule 4 = .ok (.iload_n 2, 1) := by decide +kernel
theorem dX12_rule_5 : decode cX12_rule 5 = .ok (.iconst 0, 1) := by decide +kernel
theorem dX12_rule_6 : decode cX12_rule 6 = .ok (.bipush 16, 2) := by decide +kernel
theorem dX12_rule_8 : decode cX12_rule 8 = .ok (.invokestatic 109, 3) := by decide +kernel
theorem dX12_rule_11 : decode cX12_rule 11 = .ok (.ifCond .eq 14, 3) := by decide +kernel
theorem dX12_rule_14 : decode cX12_rule 14 = .ok (.aload_n 0, 1) := by decide +kernel
theorem dX12_rule_15 : decode cX12_rule 15 = .ok (.getfield 30, 3) := by decide +kernel
theorem dX12_rule_18 : decode cX12_rule 18 = .ok (.iload_n 2, 1) := by decide +kernel
theorem dX12_rule_19 : decode cX12_rule 19 = .ok (.putfield 193, 3) := by decide +kernel
theorem dX12_rule_22 : decode cX12_rule 22 = .ok (.goto 88, 3) := by decide +kernel
theorem dX12_rule_25 : decode cX12_rule 25 = .ok (.iload_n 1, 1) := by decide +kernel
theorem dX12_rule_26 : decode cX12_rule 26 = .ok (.iconst 1, 1) := by decide +kernel
theorem dX12_rule_27 : decode cX12_rule 27 = .ok (.if_icmp .ne 24, 3) := by decide +kernel
theorem dX12_rule_30 : decode cX12_rule 30 = .ok (.iload_n 2, 1) := by decide +kernel
theorem dX12_rule_31 : decode cX12_rule 31 = .ok (.iconst 1, 1) := by decide +kernel
theorem dX12_rule_32 : decode cX12_rule 32 = .ok (.bipush 16, 2) := by decide +kernel
theorem dX12_rule_34 : decode cX12_rule 34 = .ok (.invokestatic 109, 3) := by decide +kernel
theorem dX12_rule_37 : decode cX12_rule 37 = .ok (.ifCond .eq 14, 3) := by decide +kernel
theorem dX12_rule_40 : decode cX12_rule 40 = .ok (.aload_n 0, 1) := by decide +kernel
theorem dX12_rule_41 : decode cX12_rule 41 = .ok (.getfield 30, 3) := by decide +kernel
theorem dX12_rule_44 : decode cX12_rule 44 = .ok (.iload_n 2, 1) := by decide +kernel
theorem dX12_rule_45 : decode cX12_rule 45 = .ok (.putfield 196, 3) := by decide +kernel
theorem dX12_rule_48 : decode cX12_rule 48 = .ok (.goto 62, 3) := by decide +kernel
theorem dX12_rule_51 : decode cX12_rule 51 = .ok (.iload_n 1, 1) := by decide +kernel
theorem dX12_rule_52 : decode cX12_rule 52 = .ok (.iconst 2, 1) := by decide +kernel
theorem dX12_rule_53 : decode cX12_rule 53 = .ok (.if_icmp .ne 24, 3) := by decide +kernel
theorem dX12_rule_56 : decode cX12_rule 56 = .ok (.iload_n 2, 1) := by decide +kernel
theorem dX12_rule_57 : decode cX12_rule 57 = .ok (.iconst 1, 1) := by decide +kernel
theorem dX12_rule_58 : decode cX12_rule 58 = .ok (.bipush 12, 2) := by decide +kernel
theorem dX12_rule_60 : decode cX12_rule 60 = .ok (.invokestatic 109, 3) := by decide +kernel
theorem dX12_rule_63 : decode cX12_rule 63 = .ok (.ifCond .eq 14, 3) := by decide +kernel
theorem dX12_rule_66 : decode cX12_rule 66 = .ok (.aload_n 0, 1) := by decide +kernel
theorem dX12_rule_67 : decode cX12_rule 67 = .ok (.getfield 30, 3) := by decide +kernel
theorem dX12_rule_70 : decode cX12_rule 70 = .ok (.iload_n 2, 1) := by decide +kernel
theorem dX12_rule_71 : decode cX12_rule 71 = .ok (.putfield 199, 3) := by decide +kernel
theorem dX12_rule_74 : decode cX12_rule 74 = .ok (.goto 36, 3) := by decide +kernel
theorem dX12_rule_77 : decode cX12_rule 77 = .ok (.iload_n 1, 1) := by decide +kernel
theorem dX12_rule_78 : decode cX12_rule 78 = .ok (.iconst 3, 1) := by decide +kernel
theorem dX12_rule_79 : decode cX12_rule 79 = .ok (.if_icmp .ne 25, 3) := by decide +kernel
theorem dX12_rule_82 : decode cX12_rule 82 = .ok (.iload_n 2, 1) := by decide +kernel
theorem dX12_rule_83 : decode cX12_rule 83 = .ok (.iconst 0, 1) := by decide +kernel
theorem dX12_rule_84 : decode cX12_rule 84 = .ok (.ldc_w 280, 3) := by decide +kernel
theorem dX12_rule_87 : decode cX12_rule 87 = .ok (.invokestatic 109, 3) := by decide +kernel
theorem dX12_rule_90 : decode cX12_rule 90 = .ok (.ifCond .eq 14, 3) := by decide +kernel
theorem dX12_rule_93 : decode cX12_rule 93 = .ok (.aload_n 0, 1) := by decide +kernel
theorem dX12_rule_94 : decode cX12_rule 94 = .ok (.getfield 30, 3) := by decide +kernel
theorem dX12_rule_97 : decode cX12_rule 97 = .ok (.iload_n 2, 1) := by decide +kernel
theorem dX12_rule_98 : decode cX12_rule 98 = .ok (.putfield 202, 3) := by decide +kernel
theorem dX12_rule_101 : decode cX12_rule 101 = .ok (.goto 9, 3) := by decide +kernel
theorem dX12_rule_104 : decode cX12_rule 104 = .ok (.aload_n 0, 1) := by decide +kernel
theorem dX12_rule_105 : decode cX12_rule 105 = .ok (.iconst 5, 1) := by decide +kernel
theorem dX12_rule_106 : decode cX12_rule 106 = .ok (.invokevirtual 117, 3) := by decide +kernel
theorem dX12_rule_109 : decode cX12_rule 109 = .ok (.ireturn, 1) := by decide +kernel
theorem dX12_rule_110 : decode cX12_rule 110 = .ok (.aload_n 0, 1) := by decide +kernel
theorem dX12_rule_111 : decode cX12_rule 111 = .ok (.invokevirtual 124, 3) := by decide +kernel
theorem dX12_rule_114 : decode cX12_rule 114 = .ok (.ireturn, 1) := by decide +kernel
def pX12_rule_b104 (g : MT) (this : Nat) (p1 : Int32) (p2 : Int32) (h : CT) : Option ((Int32) × CT) := bd2 (pX12_deny g h this 5) fun x3 h1 => (bz x3 (some (x3, h1)))
set_option maxRecDepth 10000 in
set_option maxHeartbeats 4000000 in
theorem pX12_rule_b104_ok {X : Cx} {G : Gx} {dk : Nat} {g : MT} {r0 : Int32} {h0 : CT} {this : Nat} {p1 : Int32} {p2 : Int32} (Z : Zx X G cX12_rule RX12 3 dk (some .boolean) (some (.int r0)) g h0) (hK : 1 ≤ dk) (t0 : gT g this = 11) (h : CT) (hf : pX12_rule_b104 g this p1 p2 h = some (r0, h0)) : J X g h 104 [(0, va_rf (some this))] [] := by
  unfold pX12_rule_b104 at hf
  refine J_aload_n Z.1 0 dX12_rule_104 rfl rfl ?_
  refine J_iconst Z.1 (v := 5) (by decide) dX12_rule_105 ?_
  replace hf := bd2_i hf
  obtain ⟨x3, h1, q2, hf⟩ := hf
  refine J_callV (ci := 10) (as := [.int 5]) (rest := []) (sy := [.int x3]) Z.1 dX12_rule_106 cw_X12_117 (pX12_deny_ok G (dk - 1) (by omega) q2) rfl rfl t0 (zG Z) rfl (by decide) (zF Z (by omega)) (zO Z (by omega) (by decide)) (zM _) Z.2.1 Z.2.1 rfl rfl ?_
  replace hf := bz_i hf
  obtain ⟨z4, hf⟩ := hf
  cases hf
  exact J_zret Z.1 Z.2.2.2.2.2 (z_n z4) dX12_rule_109
def pX12_rule_b110 (g : MT) (this : Nat) (p1 : Int32) (p2 : Int32) (h : CT) : Option ((Int32) × CT) := bd2 (pX12_agree g h this) fun x3 h1 => (bz x3 (some (x3, h1)))
set_option maxRecDepth 10000 in
set_option maxHeartbeats 4000000 in
theorem pX12_rule_b110_ok {X : Cx} {G : Gx} {dk : Nat} {g : MT} {r0 : Int32} {h0 : CT} {this : Nat} {p1 : Int32} {p2 : Int32} (Z : Zx X G cX12_rule RX12 3 dk (some .boolean) (some (.int r0)) g h0) (hK : 1 ≤ dk) (t0 : gT g this = 11) (h : CT) (hf : pX12_rule_b110 g this p1 p2 h = some (r0, h0)) : J X g h 110 [(0, va_rf (some this))] [] := by
  unfold pX12_rule_b110 at hf
  refine J_aload_n Z.1 0 dX12_rule_110 rfl rfl ?_
  replace hf := bd2_i hf
  obtain ⟨x3, h1, q2, hf⟩ := hf
  refine J_callV (ci := 10) (as := []) (rest := []) (sy := [.int x3]) Z.1 dX12_rule_111 cw_X12_124 (pX12_agree_ok G (dk - 1) (by omega) q2) rfl rfl t0 (zG Z) rfl (by decide) (zF Z (by omega)) (zO Z (by omega) (by decide)) (zM _) Z.2.1 Z.2.1 rfl rfl ?_
  replace hf := bz_i hf
  obtain ⟨z4, hf⟩ := hf
  cases hf
  exact J_zret Z.1 Z.2.2.2.2.2 (z_n z4) dX12_rule_114
def pX12_rule_b77 (g : MT) (this : Nat) (p1 : Int32) (p2 : Int32) (h : CT) : Option ((Int32) × CT) := if p1 = 3 then if (pX12_within p2 0 65535) = 0 then pX12_rule_b104 g this p1 p2  h else lt (hR h this 4) fun r3 => (nn r3 fun a3 => (tg g a3 3 (lt (sI h a3 4 p2) fun h5 => (pX12_rule_b110 g this p1 p2  h5)))) else pX12_rule_b104 g this p1 p2  h
set_option maxRecDepth 10000 in
set_option maxHeartbeats 4000000 in
theorem pX12_rule_b77_ok {X : Cx} {G : Gx} {dk : Nat} {g : MT} {r0 : Int32} {h0 : CT} {this : Nat} {p1 : Int32} {p2 : Int32} (Z : Zx X G cX12_rule RX12 3 dk (some .boolean) (some (.int r0)) g h0) (hK : 1 ≤ dk) (t0 : gT g this = 11) (h : CT) (hf : pX12_rule_b77 g this p1 p2 h = some (r0, h0)) : J X g h 77 [(0, va_rf (some this)), (1, .int p1), (2, .int p2)] [] := by
  unfold pX12_rule_b77 at hf
  refine J_iload_n Z.1 1 dX12_rule_77 rfl rfl ?_
  refine J_iconst Z.1 (v := 3) (by decide) dX12_rule_78 ?_
  refine J_icmp_ne Z.1 104 dX12_rule_79 (by decide) (fun c1 => ?_) (fun c1 => ?_)
  · rw [if_neg c1] at hf
    refine J_lv [0] rfl ?_
    exact pX12_rule_b104_ok Z hK t0  _ hf
  · rw [if_pos c1] at hf
    refine J_iload_n Z.1 2 dX12_rule_82 rfl rfl ?_
    refine J_iconst Z.1 (v := 0) (by decide) dX12_rule_83 ?_
    refine J_ldcw Z.1 q_964 dX12_rule_84 ?_
    refine J_callS (as := [.int p2, .int 0, .int 65535]) (rest := []) (sy := [.int (pX12_within p2 0 65535)]) Z.1 dX12_rule_87 cw_X12_109 (pX12_within_ok G (dk - 1) (by omega) g h p2 0 65535) (zG Z) rfl (by decide) (zF Z (by omega)) (zO Z (by omega) (by decide)) (zM _) Z.2.1 Z.2.1 rfl rfl ?_
    refine J_if_eq Z.1 104 dX12_rule_90 (by decide) (fun c2 => ?_) (fun c2 => ?_)
    · rw [if_pos c2] at hf
      refine J_lv [0] rfl ?_
      exact pX12_rule_b104_ok Z hK t0  _ hf
    · rw [if_neg c2] at hf
      refine J_aload_n Z.1 0 dX12_rule_93 rfl rfl ?_
      refine J_get (v := va_rf (hR h this 4)) Z.1 dX12_rule_94 fl_X12_30 t0 rfl ?_
      refine J_tr (fun r3 er3 => ?_)
      replace hf := lt_i hf r3 er3
      refine J_iload_n Z.1 2 dX12_rule_97 rfl rfl ?_
      replace hf := nn_i hf
      obtain ⟨a3, rfl, hf⟩ := hf
      replace hf := tg_i hf
      obtain ⟨t4, hf⟩ := hf
      refine J_putI Z.1 dX12_rule_98 fl_X12_202 (fun q => by cases q) t4 rfl rfl (congrArg Value.int (hI_s _ _ _ _)) ?_
      refine J_th (fun h5 eh5 => ?_)
      replace hf := lt_i hf h5 eh5
      refine J_goto Z.1 110 dX12_rule_101 (by decide) ?_
      refine J_lv [0] rfl ?_
      exact pX12_rule_b110_ok Z hK t0  _ hf
def pX12_rule_b51 (g : MT) (this : Nat) (p1 : Int32) (p2 : Int32) (h : CT) : Option ((Int32) × CT) := if p1 = 2 then if (pX12_within p2 1 12) = 0 then pX12_rule_b77 g this p1 p2  h else lt (hR h this 4) fun r3 => (nn r3 fun a3 => (tg g a3 3 (lt (sI h a3 7 p2) fun h5 => (pX12_rule_b110 g this p1 p2  h5)))) else pX12_rule_b77 g this p1 p2  h
set_option maxRecDepth 10000 in
set_option maxHeartbeats 4000000 in
theorem pX12_rule_b51_ok {X : Cx} {G : Gx} {dk : Nat} {g : MT} {r0 : Int32} {h0 : CT} {this : Nat} {p1 : Int32} {p2 : Int32} (Z : Zx X G cX12_rule RX12 3 dk (some .boolean) (some (.int r0)) g h0) (hK : 1 ≤ dk) (t0 : gT g this = 11) (h : CT) (hf : pX12_rule_b51 g this p1 p2 h = some (r0, h0)) : J X g h 51 [(0, va_rf (some this)), (1, .int p1), (2, .int p2)] [] := by
  unfold pX12_rule_b51 at hf
  refine J_iload_n Z.1 1 dX12_rule_51 rfl rfl ?_
  refine J_iconst Z.1 (v := 2) (by decide) dX12_rule_52 ?_
  refine J_icmp_ne Z.1 77 dX12_rule_53 (by decide) (fun c1 => ?_) (fun c1 => ?_)
  · rw [if_neg c1] at hf
    exact pX12_rule_b77_ok Z hK t0  _ hf
  · rw [if_pos c1] at hf
    refine J_iload_n Z.1 2 dX12_rule_56 rfl rfl ?_
    refine J_iconst Z.1 (v := 1) (by decide) dX12_rule_57 ?_
    refine J_bipush Z.1 (v := 12) (by decide) dX12_rule_58 ?_
    refine J_callS (as := [.int p2, .int 1, .int 12]) (rest := []) (sy := [.int (pX12_within p2 1 12)]) Z.1 dX12_rule_60 cw_X12_109 (pX12_within_ok G (dk - 1) (by omega) g h p2 1 12) (zG Z) rfl (by decide) (zF Z (by omega)) (zO Z (by omega) (by decide)) (zM _) Z.2.1 Z.2.1 rfl rfl ?_
    refine J_if_eq Z.1 77 dX12_rule_63 (by decide) (fun c2 => ?_) (fun c2 => ?_)
    · rw [if_pos c2] at hf
      exact pX12_rule_b77_ok Z hK t0  _ hf
    · rw [if_neg c2] at hf
      refine J_aload_n Z.1 0 dX12_rule_66 rfl rfl ?_
      refine J_get (v := va_rf (hR h this 4)) Z.1 dX12_rule_67 fl_X12_30 t0 rfl ?_
      refine J_tr (fun r3 er3 => ?_)
      replace hf := lt_i hf r3 er3
      refine J_iload_n Z.1 2 dX12_rule_70 rfl rfl ?_
      replace hf := nn_i hf
      obtain ⟨a3, rfl, hf⟩ := hf
      replace hf := tg_i hf
      obtain ⟨t4, hf⟩ := hf
      refine J_putI Z.1 dX12_rule_71 fl_X12_199 (fun q => by cases q) t4 rfl rfl (congrArg Value.int (hI_s _ _ _ _)) ?_
      refine J_th (fun h5 eh5 => ?_)
      replace hf := lt_i hf h5 eh5
      refine J_goto Z.1 110 dX12_rule_74 (by decide) ?_
      refine J_lv [0] rfl ?_
      exact pX12_rule_b110_ok Z hK t0  _ hf
def pX12_rule_b25 (g : MT) (this : Nat) (p1 : Int32) (p2 : Int32) (h : CT) : Option ((Int32) × CT) := if p1 = 1 then if (pX12_within p2 1 16) = 0 then pX12_rule_b51 g this p1 p2  h else lt (hR h this 4) fun r3 => (nn r3 fun a3 => (tg g a3 3 (lt (sI h a3 6 p2) fun h5 => (pX12_rule_b110 g this p1 p2  h5)))) else pX12_rule_b51 g this p1 p2  h
set_option maxRecDepth 10000 in
set_option maxHeartbeats 4000000 in
theorem pX12_rule_b25_ok {X : Cx} {G : Gx} {dk : Nat} {g : MT} {r0 : Int32} {h0 : CT} {this : Nat} {p1 : Int32} {p2 : Int32} (Z : Zx X G cX12_rule RX12 3 dk (some .boolean) (some (.int r0)) g h0) (hK : 1 ≤ dk) (t0 : gT g this = 11) (h : CT) (hf : pX12_rule_b25 g this p1 p2 h = some (r0, h0)) : J X g h 25 [(0, va_rf (some this)), (1, .int p1), (2, .int p2)] [] := by
  unfold pX12_rule_b25 at hf
  refine J_iload_n Z.1 1 dX12_rule_25 rfl rfl ?_
  refine J_iconst Z.1 (v := 1) (by decide) dX12_rule_26 ?_
  refine J_icmp_ne Z.1 51 dX12_rule_27 (by decide) (fun c1 => ?_) (fun c1 => ?_)
  · rw [if_neg c1] at hf
    exact pX12_rule_b51_ok Z hK t0  _ hf
  · rw [if_pos c1] at hf
    refine J_iload_n Z.1 2 dX12_rule_30 rfl rfl ?_
    refine J_iconst Z.1 (v := 1) (by decide) dX12_rule_31 ?_
    refine J_bipush Z.1 (v := 16) (by decide) dX12_rule_32 ?_
    refine J_callS (as := [.int p2, .int 1, .int 16]) (rest := []) (sy := [.int (pX12_within p2 1 16)]) Z.1 dX12_rule_34 cw_X12_109 (pX12_within_ok G (dk - 1) (by omega) g h p2 1 16) (zG Z) rfl (by decide) (zF Z (by omega)) (zO Z (by omega) (by decide)) (zM _) Z.2.1 Z.2.1 rfl rfl ?_
    refine J_if_eq Z.1 51 dX12_rule_37 (by decide) (fun c2 => ?_) (fun c2 => ?_)
    · rw [if_pos c2] at hf
      exact pX12_rule_b51_ok Z hK t0  _ hf
    · rw [if_neg c2] at hf
      refine J_aload_n Z.1 0 dX12_rule_40 rfl rfl ?_
      refine J_get (v := va_rf (hR h this 4)) Z.1 dX12_rule_41 fl_X12_30 t0 rfl ?_
      refine J_tr (fun r3 er3 => ?_)
      replace hf := lt_i hf r3 er3
      refine J_iload_n Z.1 2 dX12_rule_44 rfl rfl ?_
      replace hf := nn_i hf
      obtain ⟨a3, rfl, hf⟩ := hf
      replace hf := tg_i hf
      obtain ⟨t4, hf⟩ := hf
      refine J_putI Z.1 dX12_rule_45 fl_X12_196 (fun q => by cases q) t4 rfl rfl (congrArg Value.int (hI_s _ _ _ _)) ?_
      refine J_th (fun h5 eh5 => ?_)
      replace hf := lt_i hf h5 eh5
      refine J_goto Z.1 110 dX12_rule_48 (by decide) ?_
      refine J_lv [0] rfl ?_
      exact pX12_rule_b110_ok Z hK t0  _ hf
def pX12_rule (g : MT) (h : CT) (this : Nat) (p1 : Int32) (p2 : Int32) : Option ((Int32) × CT) := tg g this 11 (if p1 = 0 then if (pX12_within p2 0 16) = 0 then pX12_rule_b25 g this p1 p2  h else lt (hR h this 4) fun r3 => (nn r3 fun a3 => (tg g a3 3 (lt (sI h a3 5 p2) fun h5 => (pX12_rule_b110 g this p1 p2  h5)))) else pX12_rule_b25 g this p1 p2  h)
set_option maxRecDepth 10000 in
set_option maxHeartbeats 4000000 in
theorem pX12_rule_ok (G : Gx) (dk : Nat) (hK : 1 ≤ dk) {g : MT} {h h0 : CT} {this : Nat} {p1 : Int32} {p2 : Int32} {r0 : Int32} (hf : pX12_rule g h this p1 p2 = some (r0, h0)) : Ctr G dk yX12_rule cX12_rule 3 (some .boolean) [va_rf (some this), .int p1, .int p2] g h (some (.int r0)) g h0 := by
  refine Ctr.ofZ (lv := [(0, va_rf (some this)), (1, .int p1), (2, .int p2)]) (by decide +kernel) (by simp [cat_i, cat_l, cat_d, cat_rf]) rfl fun X Z => ?_
  unfold pX12_rule at hf
  replace hf := tg_i hf
  obtain ⟨t0, hf⟩ := hf
  refine J_iload_n Z.1 1 dX12_rule_0 rfl rfl ?_
  refine J_if_ne Z.1 25 dX12_rule_1 (by decide) (fun c1 => ?_) (fun c1 => ?_)
  · rw [if_neg c1] at hf
    exact pX12_rule_b25_ok Z hK t0  _ hf
  · rw [if_pos c1] at hf
    refine J_iload_n Z.1 2 dX12_rule_4 rfl rfl ?_
    refine J_iconst Z.1 (v := 0) (by decide) dX12_rule_5 ?_
    refine J_bipush Z.1 (v := 16) (by decide) dX12_rule_6 ?_
    refine J_callS (as := [.int p2, .int 0, .int 16]) (rest := []) (sy := [.int (pX12_within p2 0 16)]) Z.1 dX12_rule_8 cw_X12_109 (pX12_within_ok G (dk - 1) (by omega) g h p2 0 16) (zG Z) rfl (by decide) (zF Z (by omega)) (zO Z (by omega) (by decide)) (zM _) Z.2.1 Z.2.1 rfl rfl ?_
    refine J_if_eq Z.1 25 dX12_rule_11 (by decide) (fun c2 => ?_) (fun c2 => ?_)
    · rw [if_pos c2] at hf
      exact pX12_rule_b25_ok Z hK t0  _ hf
    · rw [if_neg c2] at hf
      refine J_aload_n Z.1 0 dX12_rule_14 rfl rfl ?_
      refine J_get (v := va_rf (hR h this 4)) Z.1 dX12_rule_15 fl_X12_30 t0 rfl ?_
      refine J_tr (fun r3 er3 => ?_)
      replace hf := lt_i hf r3 er3
      refine J_iload_n Z.1 2 dX12_rule_18 rfl rfl ?_
      replace hf := nn_i hf
      obtain ⟨a3, rfl, hf⟩ := hf
      replace hf := tg_i hf
      obtain ⟨t4, hf⟩ := hf
      refine J_putI Z.1 dX12_rule_19 fl_X12_193 (fun q => by cases q) t4 rfl rfl (congrArg Value.int (hI_s _ _ _ _)) ?_
      refine J_th (fun h5 eh5 => ?_)
      replace hf := lt_i hf h5 eh5
      refine J_goto Z.1 110 dX12_rule_22 (by decide) ?_
      refine J_lv [0] rfl ?_
      exact pX12_rule_b110_ok Z hK t0  _ hf
theorem dX12_ran_0 : decode cX12_ran 0 = .ok (.iload_n 1, 1) := by decide +kernel
theorem dX12_ran_1 : decode cX12_ran 1 = .ok (.iconst 0, 1) := by decide +kernel
theorem dX12_ran_2 : decode cX12_ran 2 = .ok (.iconst 5, 1) := by decide +kernel
theorem dX12_ran_3 : decode cX12_ran 3 = .ok (.invokestatic 109, 3) := by decide +kernel
theorem dX12_ran_6 : decode cX12_ran 6 = .ok (.ifCond .ne 9, 3) := by decide +kernel
theorem dX12_ran_9 : decode cX12_ran 9 = .ok (.aload_n 0, 1) := by decide +kernel
theorem dX12_ran_10 : decode cX12_ran 10 = .ok (.iconst 5, 1) := by decide +kernel
theorem dX12_ran_11 : decode cX12_ran 11 = .ok (.invokevirtual 143, 3) := by decide +kernel
theorem dX12_ran_14 : decode cX12_ran 14 = .ok (.ireturn, 1) := by decide +kernel
theorem dX12_ran_15 : decode cX12_ran 15 = .ok (.aload_n 0, 1) := by decide +kernel
theorem dX12_ran_16 : decode cX12_ran 16 = .ok (.getfield 285, 3) := by decide +kernel
theorem dX12_ran_19 : decode cX12_ran 19 = .ok (.ifCond .eq 18, 3) := by decide +kernel
theorem dX12_ran_22 : decode cX12_ran 22 = .ok (.iload_n 1, 1) := by decide +kernel
theorem dX12_ran_23 : decode cX12_ran 23 = .ok (.iconst 3, 1) := by decide +kernel
theorem dX12_ran_24 : decode cX12_ran 24 = .ok (.if_icmp .le 20, 3) := by decide +kernel
theorem dX12_ran_27 : decode cX12_ran 27 = .ok (.aload_n 0, 1) := by decide +kernel
theorem dX12_ran_28 : decode cX12_ran 28 = .ok (.getfield 57, 3) := by decide +kernel
theorem dX12_ran_31 : decode cX12_ran 31 = .ok (.getfield 288, 3) := by decide +kernel
theorem dX12_ran_34 : decode cX12_ran 34 = .ok (.ifCond .ne 10, 3) := by decide +kernel
theorem dX12_ran_37 : decode cX12_ran 37 = .ok (.aload_n 0, 1) := by decide +kernel
theorem dX12_ran_38 : decode cX12_ran 38 = .ok (.bipush 8, 2) := by decide +kernel
theorem dX12_ran_40 : decode cX12_ran 40 = .ok (.invokevirtual 143, 3) := by decide +kernel
theorem dX12_ran_43 : decode cX12_ran 43 = .ok (.ireturn, 1) := by decide +kernel
theorem dX12_ran_44 : decode cX12_ran 44 = .ok (.iload_n 1, 1) := by decide +kernel
theorem dX12_ran_45 : decode cX12_ran 45 = .ok (.tableswitch 95 0 4 #[35, 47, 59, 71, 83], 35) := by decide +kernel
theorem dX12_ran_80 : decode cX12_ran 80 = .ok (.aload_n 0, 1) := by decide +kernel
theorem dX12_ran_81 : decode cX12_ran 81 = .ok (.aload_n 0, 1) := by decide +kernel
theorem dX12_ran_82 : decode cX12_ran 82 = .ok (.getfield 57, 3) := by decide +kernel
theorem dX12_ran_85 : decode cX12_ran 85 = .ok (.getfield 294, 3) := by decide +kernel
theorem dX12_ran_88 : decode cX12_ran 88 = .ok (.invokevirtual 105, 3) := by decide +kernel
theorem dX12_ran_91 : decode cX12_ran 91 = .ok (.ireturn, 1) := by decide +kernel
theorem dX12_ran_92 : decode cX12_ran 92 = .ok (.aload_n 0, 1) := by decide +kernel
theorem dX12_ran_93 : decode cX12_ran 93 = .ok (.aload_n 0, 1) := by decide +kernel
theorem dX12_ran_94 : decode cX12_ran 94 = .ok (.getfield 57, 3) := by decide +kernel
theorem dX12_ran_97 : decode cX12_ran 97 = .ok (.getfield 297, 3) := by decide +kernel
theorem dX12_ran_100 : decode cX12_ran 100 = .ok (.invokevirtual 105, 3) := by decide +kernel
theorem dX12_ran_103 : decode cX12_ran 103 = .ok (.ireturn, 1) := by decide +kernel
theorem dX12_ran_104 : decode cX12_ran 104 = .ok (.aload_n 0, 1) := by decide +kernel
theorem dX12_ran_105 : decode cX12_ran 105 = .ok (.aload_n 0, 1) := by decide +kernel
theorem dX12_ran_106 : decode cX12_ran 106 = .ok (.getfield 57, 3) := by decide +kernel
theorem dX12_ran_109 : decode cX12_ran 109 = .ok (.getfield 291, 3) := by decide +kernel
theorem dX12_ran_112 : decode cX12_ran 112 = .ok (.invokevirtual 105, 3) := by decide +kernel
theorem dX12_ran_115 : decode cX12_ran 115 = .ok (.ireturn, 1) := by decide +kernel
theorem dX12_ran_116 : decode cX12_ran 116 = .ok (.aload_n 0, 1) := by decide +kernel
theorem dX12_ran_117 : decode cX12_ran 117 = .ok (.aload_n 0, 1) := by decide +kernel
theorem dX12_ran_118 : decode cX12_ran 118 = .ok (.getfield 57, 3) := by decide +kernel
theorem dX12_ran_121 : decode cX12_ran 121 = .ok (.getfield 288, 3) := by decide +kernel
theorem dX12_ran_124 : decode cX12_ran 124 = .ok (.invokevirtual 105, 3) := by decide +kernel
theorem dX12_ran_127 : decode cX12_ran 127 = .ok (.ireturn, 1) := by decide +kernel
theorem dX12_ran_128 : decode cX12_ran 128 = .ok (.aload_n 0, 1) := by decide +kernel
theorem dX12_ran_129 : decode cX12_ran 129 = .ok (.aload_n 0, 1) := by decide +kernel
theorem dX12_ran_130 : decode cX12_ran 130 = .ok (.getfield 57, 3) := by decide +kernel
theorem dX12_ran_133 : decode cX12_ran 133 = .ok (.getfield 300, 3) := by decide +kernel
theorem dX12_ran_136 : decode cX12_ran 136 = .ok (.invokevirtual 105, 3) := by decide +kernel
theorem dX12_ran_139 : decode cX12_ran 139 = .ok (.ireturn, 1) := by decide +kernel
theorem dX12_ran_140 : decode cX12_ran 140 = .ok (.aload_n 0, 1) := by decide +kernel
theorem dX12_ran_141 : decode cX12_ran 141 = .ok (.aload_n 0, 1) := by decide +kernel
theorem dX12_ran_142 : decode cX12_ran 142 = .ok (.getfield 57, 3) := by decide +kernel
theorem dX12_ran_145 : decode cX12_ran 145 = .ok (.getfield 303, 3) := by decide +kernel
theorem dX12_ran_148 : decode cX12_ran 148 = .ok (.invokevirtual 105, 3) := by decide +kernel
theorem dX12_ran_151 : decode cX12_ran 151 = .ok (.ireturn, 1) := by decide +kernel
def pX12_ran_b37 (g : MT) (this : Nat) (p1 : Int32) (h : CT) : Option ((Int32) × CT) := bd2 (pX12_refuse g h this 8) fun x3 h1 => (some (x3, h1))
set_option maxRecDepth 10000 in
set_option maxHeartbeats 4000000 in
theorem pX12_ran_b37_ok {X : Cx} {G : Gx} {dk : Nat} {g : MT} {r0 : Int32} {h0 : CT} {this : Nat} {p1 : Int32} (Z : Zx X G cX12_ran RX12 2 dk (some .int) (some (.int r0)) g h0) (hK : 1 ≤ dk) (t0 : gT g this = 11) (h : CT) (hf : pX12_ran_b37 g this p1 h = some (r0, h0)) : J X g h 37 [(0, va_rf (some this))] [] := by
  unfold pX12_ran_b37 at hf
  refine J_aload_n Z.1 0 dX12_ran_37 rfl rfl ?_
  refine J_bipush Z.1 (v := 8) (by decide) dX12_ran_38 ?_
  replace hf := bd2_i hf
  obtain ⟨x3, h1, q2, hf⟩ := hf
  refine J_callV (ci := 10) (as := [.int 8]) (rest := []) (sy := [.int x3]) Z.1 dX12_ran_40 cw_X12_143 (pX12_refuse_ok G (dk - 1) (by omega) q2) rfl rfl t0 (zG Z) rfl (by decide) (zF Z (by omega)) (zO Z (by omega) (by decide)) (zM _) Z.2.1 Z.2.1 rfl rfl ?_
  cases hf
  exact J_iret Z.1 Z.2.2.2.2.2 dX12_ran_43
def pX12_ran_b44 (g : MT) (this : Nat) (p1 : Int32) (h : CT) : Option ((Int32) × CT) := if p1 = 0 then lt (hR h this 8) fun r2 => (nn r2 fun a2 => (tg g a2 9 (bd2 (pX12_answer g h this (hI h a2 0)) fun x6 h4 => (some (x6, h4))))) else (if p1 = 1 then lt (hR h this 8) fun r8 => (nn r8 fun a8 => (tg g a8 9 (bd2 (pX12_answer g h this (hI h a8 1)) fun x12 h10 => (some (x12, h10))))) else (if p1 = 2 then lt (hR h this 8) fun r14 => (nn r14 fun a14 => (tg g a14 9 (bd2 (pX12_answer g h this (hI h a14 2)) fun x18 h16 => (some (x18, h16))))) else (if p1 = 3 then lt (hR h this 8) fun r20 => (nn r20 fun a20 => (tg g a20 9 (bd2 (pX12_answer g h this (hI h a20 3)) fun x24 h22 => (some (x24, h22))))) else (if p1 = 4 then lt (hR h this 8) fun r26 => (nn r26 fun a26 => (tg g a26 9 (bd2 (pX12_answer g h this (hI h a26 4)) fun x30 h28 => (some (x30, h28))))) else (lt (hR h this 8) fun r31 => (nn r31 fun a31 => (tg g a31 9 (bd2 (pX12_answer g h this (hI h a31 5)) fun x35 h33 => (some (x35, h33))))))))))
set_option maxRecDepth 10000 in
set_option maxHeartbeats 4000000 in
theorem pX12_ran_b44_ok {X : Cx} {G : Gx} {dk : Nat} {g : MT} {r0 : Int32} {h0 : CT} {this : Nat} {p1 : Int32} (Z : Zx X G cX12_ran RX12 2 dk (some .int) (some (.int r0)) g h0) (hK : 1 ≤ dk) (t0 : gT g this = 11) (h : CT) (hf : pX12_ran_b44 g this p1 h = some (r0, h0)) : J X g h 44 [(0, va_rf (some this)), (1, .int p1)] [] := by
  unfold pX12_ran_b44 at hf
  refine J_iload_n Z.1 1 dX12_ran_44 rfl rfl ?_
  by_cases c1 : p1 = 0
  · rw [if_pos c1] at hf
    refine J_tabIn (off := 35) Z.1 80 dX12_ran_45 (by rw [c1]; decide) (by rw [c1]; decide) (by rw [c1]; decide) (by decide) ?_
    refine J_aload_n Z.1 0 dX12_ran_80 rfl rfl ?_
    refine J_aload_n Z.1 0 dX12_ran_81 rfl rfl ?_
    refine J_get (v := va_rf (hR h this 8)) Z.1 dX12_ran_82 fl_X12_57 t0 rfl ?_
    refine J_tr (fun r2 er2 => ?_)
    replace hf := lt_i hf r2 er2
    replace hf := nn_i hf
    obtain ⟨a2, rfl, hf⟩ := hf
    replace hf := tg_i hf
    obtain ⟨t3, hf⟩ := hf
    refine J_get (v := .int (hI h a2 0)) Z.1 dX12_ran_85 fl_X12_294 t3 rfl ?_
    replace hf := bd2_i hf
    obtain ⟨x6, h4, q5, hf⟩ := hf
    refine J_callV (ci := 10) (as := [.int (hI h a2 0)]) (rest := []) (sy := [.int x6]) Z.1 dX12_ran_88 cw_X12_105 (pX12_answer_ok G (dk - 1) (by omega) q5) rfl rfl t0 (zG Z) rfl (by decide) (zF Z (by omega)) (zO Z (by omega) (by decide)) (zM _) Z.2.1 Z.2.1 rfl rfl ?_
    cases hf
    exact J_iret Z.1 Z.2.2.2.2.2 dX12_ran_91
  rw [if_neg c1] at hf
  by_cases c7 : p1 = 1
  · rw [if_pos c7] at hf
    refine J_tabIn (off := 47) Z.1 92 dX12_ran_45 (by rw [c7]; decide) (by rw [c7]; decide) (by rw [c7]; decide) (by decide) ?_
    refine J_aload_n Z.1 0 dX12_ran_92 rfl rfl ?_
    refine J_aload_n Z.1 0 dX12_ran_93 rfl rfl ?_
    refine J_get (v := va_rf (hR h this 8)) Z.1 dX12_ran_94 fl_X12_57 t0 rfl ?_
    refine J_tr (fun r8 er8 => ?_)
    replace hf := lt_i hf r8 er8
    replace hf := nn_i hf
    obtain ⟨a8, rfl, hf⟩ := hf
    replace hf := tg_i hf
    obtain ⟨t9, hf⟩ := hf
    refine J_get (v := .int (hI h a8 1)) Z.1 dX12_ran_97 fl_X12_297 t9 rfl ?_
    replace hf := bd2_i hf
    obtain ⟨x12, h10, q11, hf⟩ := hf
    refine J_callV (ci := 10) (as := [.int (hI h a8 1)]) (rest := []) (sy := [.int x12]) Z.1 dX12_ran_100 cw_X12_105 (pX12_answer_ok G (dk - 1) (by omega) q11) rfl rfl t0 (zG Z) rfl (by decide) (zF Z (by omega)) (zO Z (by omega) (by decide)) (zM _) Z.2.1 Z.2.1 rfl rfl ?_
    cases hf
    exact J_iret Z.1 Z.2.2.2.2.2 dX12_ran_103
  rw [if_neg c7] at hf
  by_cases c13 : p1 = 2
  · rw [if_pos c13] at hf
    refine J_tabIn (off := 59) Z.1 104 dX12_ran_45 (by rw [c13]; decide) (by rw [c13]; decide) (by rw [c13]; decide) (by decide) ?_
    refine J_aload_n Z.1 0 dX12_ran_104 rfl rfl ?_
    refine J_aload_n Z.1 0 dX12_ran_105 rfl rfl ?_
    refine J_get (v := va_rf (hR h this 8)) Z.1 dX12_ran_106 fl_X12_57 t0 rfl ?_
    refine J_tr (fun r14 er14 => ?_)
    replace hf := lt_i hf r14 er14
    replace hf := nn_i hf
    obtain ⟨a14, rfl, hf⟩ := hf
    replace hf := tg_i hf
    obtain ⟨t15, hf⟩ := hf
    refine J_get (v := .int (hI h a14 2)) Z.1 dX12_ran_109 fl_X12_291 t15 rfl ?_
    replace hf := bd2_i hf
    obtain ⟨x18, h16, q17, hf⟩ := hf
    refine J_callV (ci := 10) (as := [.int (hI h a14 2)]) (rest := []) (sy := [.int x18]) Z.1 dX12_ran_112 cw_X12_105 (pX12_answer_ok G (dk - 1) (by omega) q17) rfl rfl t0 (zG Z) rfl (by decide) (zF Z (by omega)) (zO Z (by omega) (by decide)) (zM _) Z.2.1 Z.2.1 rfl rfl ?_
    cases hf
    exact J_iret Z.1 Z.2.2.2.2.2 dX12_ran_115
  rw [if_neg c13] at hf
  by_cases c19 : p1 = 3
  · rw [if_pos c19] at hf
    refine J_tabIn (off := 71) Z.1 116 dX12_ran_45 (by rw [c19]; decide) (by rw [c19]; decide) (by rw [c19]; decide) (by decide) ?_
    refine J_aload_n Z.1 0 dX12_ran_116 rfl rfl ?_
    refine J_aload_n Z.1 0 dX12_ran_117 rfl rfl ?_
    refine J_get (v := va_rf (hR h this 8)) Z.1 dX12_ran_118 fl_X12_57 t0 rfl ?_
    refine J_tr (fun r20 er20 => ?_)
    replace hf := lt_i hf r20 er20
    replace hf := nn_i hf
    obtain ⟨a20, rfl, hf⟩ := hf
    replace hf := tg_i hf
    obtain ⟨t21, hf⟩ := hf
    refine J_get (v := .int (hI h a20 3)) Z.1 dX12_ran_121 fl_X12_288 t21 rfl ?_
    replace hf := bd2_i hf
    obtain ⟨x24, h22, q23, hf⟩ := hf
    refine J_callV (ci := 10) (as := [.int (hI h a20 3)]) (rest := []) (sy := [.int x24]) Z.1 dX12_ran_124 cw_X12_105 (pX12_answer_ok G (dk - 1) (by omega) q23) rfl rfl t0 (zG Z) rfl (by decide) (zF Z (by omega)) (zO Z (by omega) (by decide)) (zM _) Z.2.1 Z.2.1 rfl rfl ?_
    cases hf
    exact J_iret Z.1 Z.2.2.2.2.2 dX12_ran_127
  rw [if_neg c19] at hf
  by_cases c25 : p1 = 4
  · rw [if_pos c25] at hf
    refine J_tabIn (off := 83) Z.1 128 dX12_ran_45 (by rw [c25]; decide) (by rw [c25]; decide) (by rw [c25]; decide) (by decide) ?_
    refine J_aload_n Z.1 0 dX12_ran_128 rfl rfl ?_
    refine J_aload_n Z.1 0 dX12_ran_129 rfl rfl ?_
    refine J_get (v := va_rf (hR h this 8)) Z.1 dX12_ran_130 fl_X12_57 t0 rfl ?_
    refine J_tr (fun r26 er26 => ?_)
    replace hf := lt_i hf r26 er26
    replace hf := nn_i hf
    obtain ⟨a26, rfl, hf⟩ := hf
    replace hf := tg_i hf
    obtain ⟨t27, hf⟩ := hf
    refine J_get (v := .int (hI h a26 4)) Z.1 dX12_ran_133 fl_X12_300 t27 rfl ?_
    replace hf := bd2_i hf
    obtain ⟨x30, h28, q29, hf⟩ := hf
    refine J_callV (ci := 10) (as := [.int (hI h a26 4)]) (rest := []) (sy := [.int x30]) Z.1 dX12_ran_136 cw_X12_105 (pX12_answer_ok G (dk - 1) (by omega) q29) rfl rfl t0 (zG Z) rfl (by decide) (zF Z (by omega)) (zO Z (by omega) (by decide)) (zM _) Z.2.1 Z.2.1 rfl rfl ?_
    cases hf
    exact J_iret Z.1 Z.2.2.2.2.2 dX12_ran_139
  rw [if_neg c25] at hf
  have hout : p1.toInt < 0 ∨ 4 < p1.toInt := by
    have c1q := lv_neT c1 (a := 0) (by decide)
    have c7q := lv_neT c7 (a := 1) (by decide)
    have c13q := lv_neT c13 (a := 2) (by decide)
    have c19q := lv_neT c19 (a := 3) (by decide)
    have c25q := lv_neT c25 (a := 4) (by decide)
    omega
  refine J_tabOut Z.1 140 dX12_ran_45 hout (by decide) ?_
  refine J_aload_n Z.1 0 dX12_ran_140 rfl rfl ?_
  refine J_aload_n Z.1 0 dX12_ran_141 rfl rfl ?_
  refine J_get (v := va_rf (hR h this 8)) Z.1 dX12_ran_142 fl_X12_57 t0 rfl ?_
  refine J_tr (fun r31 er31 => ?_)
  replace hf := lt_i hf r31 er31
  replace hf := nn_i hf
  obtain ⟨a31, rfl, hf⟩ := hf
  replace hf := tg_i hf
  obtain ⟨t32, hf⟩ := hf
  refine J_get (v := .int (hI h a31 5)) Z.1 dX12_ran_145 fl_X12_303 t32 rfl ?_
  replace hf := bd2_i hf
  obtain ⟨x35, h33, q34, hf⟩ := hf
  refine J_callV (ci := 10) (as := [.int (hI h a31 5)]) (rest := []) (sy := [.int x35]) Z.1 dX12_ran_148 cw_X12_105 (pX12_answer_ok G (dk - 1) (by omega) q34) rfl rfl t0 (zG Z) rfl (by decide) (zF Z (by omega)) (zO Z (by omega) (by decide)) (zM _) Z.2.1 Z.2.1 rfl rfl ?_
  cases hf
  exact J_iret Z.1 Z.2.2.2.2.2 dX12_ran_151
def pX12_ran (g : MT) (h : CT) (this : Nat) (p1 : Int32) : Option ((Int32) × CT) := tg g this 11 (if (pX12_within p1 0 5) = 0 then bd2 (pX12_refuse g h this 5) fun x9 h7 => (some (x9, h7)) else if (hI h this 9) = 0 then pX12_ran_b37 g this p1  h else if p1 ≤ 3 then pX12_ran_b44 g this p1  h else lt (hR h this 8) fun r4 => (nn r4 fun a4 => (tg g a4 9 (if (hI h a4 3) = 0 then pX12_ran_b37 g this p1  h else pX12_ran_b44 g this p1  h))))
set_option maxRecDepth 10000 in
set_option maxHeartbeats 4000000 in
theorem pX12_ran_ok (G : Gx) (dk : Nat) (hK : 1 ≤ dk) {g : MT} {h h0 : CT} {this : Nat} {p1 : Int32} {r0 : Int32} (hf : pX12_ran g h this p1 = some (r0, h0)) : Ctr G dk yX12_ran cX12_ran 2 (some .int) [va_rf (some this), .int p1] g h (some (.int r0)) g h0 := by
  refine Ctr.ofZ (lv := [(0, va_rf (some this)), (1, .int p1)]) (by decide +kernel) (by simp [cat_i, cat_l, cat_d, cat_rf]) rfl fun X Z => ?_
  unfold pX12_ran at hf
  replace hf := tg_i hf
  obtain ⟨t0, hf⟩ := hf
  refine J_iload_n Z.1 1 dX12_ran_0 rfl rfl ?_
  refine J_iconst Z.1 (v := 0) (by decide) dX12_ran_1 ?_
  refine J_iconst Z.1 (v := 5) (by decide) dX12_ran_2 ?_
  refine J_callS (as := [.int p1, .int 0, .int 5]) (rest := []) (sy := [.int (pX12_within p1 0 5)]) Z.1 dX12_ran_3 cw_X12_109 (pX12_within_ok G (dk - 1) (by omega) g h p1 0 5) (zG Z) rfl (by decide) (zF Z (by omega)) (zO Z (by omega) (by decide)) (zM _) Z.2.1 Z.2.1 rfl rfl ?_
  refine J_if_ne Z.1 15 dX12_ran_6 (by decide) (fun c1 => ?_) (fun c1 => ?_)
  · rw [if_neg c1] at hf
    refine J_aload_n Z.1 0 dX12_ran_15 rfl rfl ?_
    refine J_get (v := .int (hI h this 9)) Z.1 dX12_ran_16 fl_X12_285 t0 rfl ?_
    refine J_if_eq Z.1 37 dX12_ran_19 (by decide) (fun c2 => ?_) (fun c2 => ?_)
    · rw [if_pos c2] at hf
      refine J_lv [0] rfl ?_
      exact pX12_ran_b37_ok Z hK t0  _ hf
    · rw [if_neg c2] at hf
      refine J_iload_n Z.1 1 dX12_ran_22 rfl rfl ?_
      refine J_iconst Z.1 (v := 3) (by decide) dX12_ran_23 ?_
      refine J_icmp_le Z.1 44 dX12_ran_24 (by decide) (fun c3 => ?_) (fun c3 => ?_)
      · rw [if_pos c3] at hf
        exact pX12_ran_b44_ok Z hK t0  _ hf
      · rw [if_neg c3] at hf
        refine J_aload_n Z.1 0 dX12_ran_27 rfl rfl ?_
        refine J_get (v := va_rf (hR h this 8)) Z.1 dX12_ran_28 fl_X12_57 t0 rfl ?_
        refine J_tr (fun r4 er4 => ?_)
        replace hf := lt_i hf r4 er4
        replace hf := nn_i hf
        obtain ⟨a4, rfl, hf⟩ := hf
        replace hf := tg_i hf
        obtain ⟨t5, hf⟩ := hf
        refine J_get (v := .int (hI h a4 3)) Z.1 dX12_ran_31 fl_X12_288 t5 rfl ?_
        refine J_if_ne Z.1 44 dX12_ran_34 (by decide) (fun c6 => ?_) (fun c6 => ?_)
        · rw [if_neg c6] at hf
          exact pX12_ran_b44_ok Z hK t0  _ hf
        · rw [if_pos c6] at hf
          refine J_lv [0] rfl ?_
          exact pX12_ran_b37_ok Z hK t0  _ hf
  · rw [if_pos c1] at hf
    refine J_aload_n Z.1 0 dX12_ran_9 rfl rfl ?_
    refine J_iconst Z.1 (v := 5) (by decide) dX12_ran_10 ?_
    replace hf := bd2_i hf
    obtain ⟨x9, h7, q8, hf⟩ := hf
    refine J_callV (ci := 10) (as := [.int 5]) (rest := []) (sy := [.int x9]) Z.1 dX12_ran_11 cw_X12_143 (pX12_refuse_ok G (dk - 1) (by omega) q8) rfl rfl t0 (zG Z) rfl (by decide) (zF Z (by omega)) (zO Z (by omega) (by decide)) (zM _) Z.2.1 Z.2.1 rfl rfl ?_
    cases hf
    exact J_iret Z.1 Z.2.2.2.2.2 dX12_ran_14
theorem dX12_isInstruction_0 : decode cX12_isInstruction 0 = .ok (.iload_n 1, 1) := by decide +kernel
theorem dX12_isInstruction_1 : decode cX12_isInstruction 1 = .ok (.iconst 0, 1) := by decide +kernel
theorem dX12_isInstruction_2 : decode cX12_isInstruction 2 = .ok (.aload_n 0, 1) := by decide +kernel
theorem dX12_isInstruction_3 : decode cX12_isInstruction 3 = .ok (.getfield 30, 3) := by decide +kernel
theorem dX12_isInstruction_6 : decode cX12_isInstruction 6 = .ok (.getfield 178, 3) := by decide +kernel
theorem dX12_isInstruction_9 : decode cX12_isInstruction 9 = .ok (.getfield 184, 3) := by decide +kernel
theorem dX12_isInstruction_12 : decode cX12_isInstruction 12 = .ok (.bipush 30, 2) := by decide +kernel
theorem dX12_isInstruction_14 : decode cX12_isInstruction 14 = .ok (.invokestatic 306, 3) := by decide +kernel
theorem dX12_isInstruction_17 : decode cX12_isInstruction 17 = .ok (.iconst 1, 1) := by decide +kernel
theorem dX12_isInstruction_18 : decode cX12_isInstruction 18 = .ok (.isub, 1) := by decide +kernel
theorem dX12_isInstruction_19 : decode cX12_isInstruction 19 = .ok (.invokestatic 109, 3) := by decide +kernel
theorem dX12_isInstruction_22 : decode cX12_isInstruction 22 = .ok (.ireturn, 1) := by decide +kernel
def pX12_isInstruction (g : MT) (h : CT) (this : Nat) (p1 : Int32) : Option Int32 := tg g this 11 (lt (hR h this 4) fun r1 => (nn r1 fun a1 => (tg g a1 3 (lt (hR h a1 8) fun r3 => (nn r3 fun a3 => (tg g a3 6 (some (pX12_within p1 0 ((pJ9_min_7cf53 (hI h a3 1) 30) - 1)))))))))
set_option maxRecDepth 10000 in
set_option maxHeartbeats 4000000 in
theorem pX12_isInstruction_ok (G : Gx) (dk : Nat) (hK : 1 ≤ dk) {g : MT} {h : CT} {this : Nat} {p1 : Int32} {r0 : Int32} (hf : pX12_isInstruction g h this p1 = some r0) : Ctr G dk yX12_isInstruction cX12_isInstruction 2 (some .boolean) [va_rf (some this), .int p1] g h (some (.int r0)) g h := by
  refine Ctr.ofZ (lv := [(0, va_rf (some this)), (1, .int p1)]) (by decide +kernel) (by simp [cat_i, cat_l, cat_d, cat_rf]) rfl fun X Z => ?_
  unfold pX12_isInstruction at hf
  replace hf := tg_i hf
  obtain ⟨t0, hf⟩ := hf
  refine J_iload_n Z.1 1 dX12_isInstruction_0 rfl rfl ?_
  refine J_iconst Z.1 (v := 0) (by decide) dX12_isInstruction_1 ?_
  refine J_aload_n Z.1 0 dX12_isInstruction_2 rfl rfl ?_
  refine J_get (v := va_rf (hR h this 4)) Z.1 dX12_isInstruction_3 fl_X12_30 t0 rfl ?_
  refine J_tr (fun r1 er1 => ?_)
  replace hf := lt_i hf r1 er1
  replace hf := nn_i hf
  obtain ⟨a1, rfl, hf⟩ := hf
  replace hf := tg_i hf
  obtain ⟨t2, hf⟩ := hf
  refine J_get (v := va_rf (hR h a1 8)) Z.1 dX12_isInstruction_6 fl_X12_178 t2 rfl ?_
  refine J_tr (fun r3 er3 => ?_)
  replace hf := lt_i hf r3 er3
  replace hf := nn_i hf
  obtain ⟨a3, rfl, hf⟩ := hf
  replace hf := tg_i hf
  obtain ⟨t4, hf⟩ := hf
  refine J_get (v := .int (hI h a3 1)) Z.1 dX12_isInstruction_9 fl_X12_184 t4 rfl ?_
  refine J_bipush Z.1 (v := 30) (by decide) dX12_isInstruction_12 ?_
  refine J_callS (as := [.int (hI h a3 1), .int 30]) (rest := [.int 0, .int p1]) (sy := [.int (pJ9_min_7cf53 (hI h a3 1) 30), .int 0, .int p1]) Z.1 dX12_isInstruction_14 cw_X12_306 (pJ9_min_7cf53_ok G (dk - 1) (by omega) g h (hI h a3 1) 30) (zG Z) rfl (by simp [cat_i, cat_l, cat_d, cat_rf]) (zF Z (by omega)) (zO Z (by omega) (by decide)) (zM _) Z.2.1 Z.2.1 rfl rfl ?_
  refine J_iconst Z.1 (v := 1) (by decide) dX12_isInstruction_17 ?_
  refine J_isub Z.1 dX12_isInstruction_18 ?_
  refine J_callS (as := [.int p1, .int 0, .int ((pJ9_min_7cf53 (hI h a3 1) 30) - 1)]) (rest := []) (sy := [.int (pX12_within p1 0 ((pJ9_min_7cf53 (hI h a3 1) 30) - 1))]) Z.1 dX12_isInstruction_19 cw_X12_109 (pX12_within_ok G (dk - 1) (by omega) g h p1 0 ((pJ9_min_7cf53 (hI h a3 1) 30) - 1)) (zG Z) rfl (by decide) (zF Z (by omega)) (zO Z (by omega) (by decide)) (zM _) Z.2.1 Z.2.1 rfl rfl ?_
  cases hf
  exact J_zret Z.1 Z.2.2.2.2.2 (z_n (pX12_within_z p1 0 ((pJ9_min_7cf53 (hI h a3 1) 30) - 1))) dX12_isInstruction_22
theorem dX12_time_0 : decode cX12_time 0 = .ok (.aload_n 0, 1) := by decide +kernel
theorem dX12_time_1 : decode cX12_time 1 = .ok (.iload_n 1, 1) := by decide +kernel
theorem dX12_time_2 : decode cX12_time 2 = .ok (.invokevirtual 311, 3) := by decide +kernel
theorem dX12_time_5 : decode cX12_time 5 = .ok (.ifCond .ne 9, 3) := by decide +kernel
theorem dX12_time_8 : decode cX12_time 8 = .ok (.aload_n 0, 1) := by decide +kernel
theorem dX12_time_9 : decode cX12_time 9 = .ok (.iconst 2, 1) := by decide +kernel
theorem dX12_time_10 : decode cX12_time 10 = .ok (.invokevirtual 143, 3) := by decide +kernel
theorem dX12_time_13 : decode cX12_time 13 = .ok (.ireturn, 1) := by decide +kernel
theorem dX12_time_14 : decode cX12_time 14 = .ok (.iload_n 2, 1) := by decide +kernel
theorem dX12_time_15 : decode cX12_time 15 = .ok (.iconst 0, 1) := by decide +kernel
theorem dX12_time_16 : decode cX12_time 16 = .ok (.iconst 1, 1) := by decide +kernel
theorem dX12_time_17 : decode cX12_time 17 = .ok (.invokestatic 109, 3) := by decide +kernel
theorem dX12_time_20 : decode cX12_time 20 = .ok (.ifCond .ne 9, 3) := by decide +kernel
theorem dX12_time_23 : decode cX12_time 23 = .ok (.aload_n 0, 1) := by decide +kernel
theorem dX12_time_24 : decode cX12_time 24 = .ok (.iconst 5, 1) := by decide +kernel
theorem dX12_time_25 : decode cX12_time 25 = .ok (.invokevirtual 143, 3) := by decide +kernel
theorem dX12_time_28 : decode cX12_time 28 = .ok (.ireturn, 1) := by decide +kernel
theorem dX12_time_29 : decode cX12_time 29 = .ok (.iload_n 2, 1) := by decide +kernel
theorem dX12_time_30 : decode cX12_time 30 = .ok (.ifCond .ne 15, 3) := by decide +kernel
theorem dX12_time_33 : decode cX12_time 33 = .ok (.aload_n 0, 1) := by decide +kernel
theorem dX12_time_34 : decode cX12_time 34 = .ok (.getfield 57, 3) := by decide +kernel
theorem dX12_time_37 : decode cX12_time 37 = .ok (.getfield 314, 3) := by decide +kernel
theorem dX12_time_40 : decode cX12_time 40 = .ok (.iload_n 1, 1) := by decide +kernel
theorem dX12_time_41 : decode cX12_time 41 = .ok (.iaload, 1) := by decide +kernel
theorem dX12_time_42 : decode cX12_time 42 = .ok (.goto 12, 3) := by decide +kernel
theorem dX12_time_45 : decode cX12_time 45 = .ok (.aload_n 0, 1) := by decide +kernel
theorem dX12_time_46 : decode cX12_time 46 = .ok (.getfield 57, 3) := by decide +kernel
theorem dX12_time_49 : decode cX12_time 49 = .ok (.getfield 318, 3) := by decide +kernel
theorem dX12_time_52 : decode cX12_time 52 = .ok (.iload_n 1, 1) := by decide +kernel
theorem dX12_time_53 : decode cX12_time 53 = .ok (.iaload, 1) := by decide +kernel
theorem dX12_time_54 : decode cX12_time 54 = .ok (.istore_n 3, 1) := by decide +kernel
theorem dX12_time_55 : decode cX12_time 55 = .ok (.aload_n 0, 1) := by decide +kernel
theorem dX12_time_56 : decode cX12_time 56 = .ok (.getfield 181, 3) := by decide +kernel
theorem dX12_time_59 : decode cX12_time 59 = .ok (.ifCond .eq 8, 3) := by decide +kernel
theorem dX12_time_62 : decode cX12_time 62 = .ok (.iload_n 3, 1) := by decide +kernel
theorem dX12_time_63 : decode cX12_time 63 = .ok (.iconst (-1), 1) := by decide +kernel
theorem dX12_time_64 : decode cX12_time 64 = .ok (.if_icmp .ne 12, 3) := by decide +kernel
theorem dX12_time_67 : decode cX12_time 67 = .ok (.aload_n 0, 1) := by decide +kernel
theorem dX12_time_68 : decode cX12_time 68 = .ok (.bipush 8, 2) := by decide +kernel
theorem dX12_time_70 : decode cX12_time 70 = .ok (.invokevirtual 143, 3) := by decide +kernel
theorem dX12_time_73 : decode cX12_time 73 = .ok (.goto 8, 3) := by decide +kernel
theorem dX12_time_76 : decode cX12_time 76 = .ok (.aload_n 0, 1) := by decide +kernel
theorem dX12_time_77 : decode cX12_time 77 = .ok (.iload_n 3, 1) := by decide +kernel
theorem dX12_time_78 : decode cX12_time 78 = .ok (.invokevirtual 105, 3) := by decide +kernel
theorem dX12_time_81 : decode cX12_time 81 = .ok (.ireturn, 1) := by decide +kernel
def pX12_time_b67 (g : MT) (this : Nat) (p1 : Int32) (p2 : Int32) (h : CT) : Option ((Int32) × CT) := bd2 (pX12_refuse g h this 8) fun x3 h1 => (some (x3, h1))
set_option maxRecDepth 10000 in
set_option maxHeartbeats 4000000 in
theorem pX12_time_b67_ok {X : Cx} {G : Gx} {dk : Nat} {g : MT} {r0 : Int32} {h0 : CT} {this : Nat} {p1 : Int32} {p2 : Int32} (Z : Zx X G cX12_time RX12 4 dk (some .int) (some (.int r0)) g h0) (hK : 2 ≤ dk) (t0 : gT g this = 11) (h : CT) (hf : pX12_time_b67 g this p1 p2 h = some (r0, h0)) : J X g h 67 [(0, va_rf (some this))] [] := by
  unfold pX12_time_b67 at hf
  refine J_aload_n Z.1 0 dX12_time_67 rfl rfl ?_
  refine J_bipush Z.1 (v := 8) (by decide) dX12_time_68 ?_
  replace hf := bd2_i hf
  obtain ⟨x3, h1, q2, hf⟩ := hf
  refine J_callV (ci := 10) (as := [.int 8]) (rest := []) (sy := [.int x3]) Z.1 dX12_time_70 cw_X12_143 (pX12_refuse_ok G (dk - 1) (by omega) q2) rfl rfl t0 (zG Z) rfl (by decide) (zF Z (by omega)) (zO Z (by omega) (by decide)) (zM _) Z.2.1 Z.2.1 rfl rfl ?_
  refine J_goto Z.1 81 dX12_time_73 (by decide) ?_
  cases hf
  exact J_iret Z.1 Z.2.2.2.2.2 dX12_time_81
def pX12_time_b54 (g : MT) (this : Nat) (p1 : Int32) (p2 : Int32) (s0 : Int32) (h : CT) : Option ((Int32) × CT) := if (hI h this 10) = 0 then pX12_time_b67 g this p1 p2  h else if s0 = (-1) then pX12_time_b67 g this p1 p2  h else bd2 (pX12_answer g h this s0) fun x5 h3 => (some (x5, h3))
set_option maxRecDepth 10000 in
set_option maxHeartbeats 4000000 in
theorem pX12_time_b54_ok {X : Cx} {G : Gx} {dk : Nat} {g : MT} {r0 : Int32} {h0 : CT} {this : Nat} {p1 : Int32} {p2 : Int32} (Z : Zx X G cX12_time RX12 4 dk (some .int) (some (.int r0)) g h0) (hK : 2 ≤ dk) (t0 : gT g this = 11) (s0 : Int32) (h : CT) (hf : pX12_time_b54 g this p1 p2 s0 h = some (r0, h0)) : J X g h 54 [(0, va_rf (some this))] [.int s0] := by
  unfold pX12_time_b54 at hf
  refine J_istore_n Z.1 (lv2 := [(3, .int s0), (0, va_rf (some this))]) dX12_time_54 rfl (zL Z (by decide)) rfl ?_
  refine J_aload_n Z.1 1 dX12_time_55 rfl rfl ?_
  refine J_get (v := .int (hI h this 10)) Z.1 dX12_time_56 fl_X12_181 t0 rfl ?_
  refine J_if_eq Z.1 67 dX12_time_59 (by decide) (fun c1 => ?_) (fun c1 => ?_)
  · rw [if_pos c1] at hf
    refine J_lv [1] rfl ?_
    exact pX12_time_b67_ok Z hK t0  _ hf
  · rw [if_neg c1] at hf
    refine J_iload_n Z.1 0 dX12_time_62 rfl rfl ?_
    refine J_iconst Z.1 (v := (-1)) (by decide) dX12_time_63 ?_
    refine J_icmp_ne Z.1 76 dX12_time_64 (by decide) (fun c2 => ?_) (fun c2 => ?_)
    · rw [if_neg c2] at hf
      refine J_aload_n Z.1 1 dX12_time_76 rfl rfl ?_
      refine J_iload_n Z.1 0 dX12_time_77 rfl rfl ?_
      replace hf := bd2_i hf
      obtain ⟨x5, h3, q4, hf⟩ := hf
      refine J_callV (ci := 10) (as := [.int s0]) (rest := []) (sy := [.int x5]) Z.1 dX12_time_78 cw_X12_105 (pX12_answer_ok G (dk - 1) (by omega) q4) rfl rfl t0 (zG Z) rfl (by decide) (zF Z (by omega)) (zO Z (by omega) (by decide)) (zM _) Z.2.1 Z.2.1 rfl rfl ?_
      cases hf
      exact J_iret Z.1 Z.2.2.2.2.2 dX12_time_81
    · rw [if_pos c2] at hf
      refine J_lv [1] rfl ?_
      exact pX12_time_b67_ok Z hK t0  _ hf
def pX12_time (g : MT) (h : CT) (this : Nat) (p1 : Int32) (p2 : Int32) : Option ((Int32) × CT) := tg g this 11 (bd (pX12_isInstruction g h this p1) fun x1 => (if x1 = 0 then bd2 (pX12_refuse g h this 2) fun x21 h19 => (some (x21, h19)) else if (pX12_within p2 0 1) = 0 then bd2 (pX12_refuse g h this 5) fun x18 h16 => (some (x18, h16)) else if p2 = 0 then lt (hR h this 8) fun r11 => (nn r11 fun a11 => (tg g a11 9 (lt (hR h a11 6) fun r13 => (nn r13 fun a13 => (tg g a13 20 (ix (gL g a13) p1 (pX12_time_b54 g this p1 p2  (hI h a13 (Int32.toNatClampNeg p1)) h))))))) else lt (hR h this 8) fun r6 => (nn r6 fun a6 => (tg g a6 9 (lt (hR h a6 7) fun r8 => (nn r8 fun a8 => (tg g a8 20 (ix (gL g a8) p1 (pX12_time_b54 g this p1 p2  (hI h a8 (Int32.toNatClampNeg p1)) h)))))))))
set_option maxRecDepth 10000 in
set_option maxHeartbeats 4000000 in
theorem pX12_time_ok (G : Gx) (dk : Nat) (hK : 2 ≤ dk) {g : MT} {h h0 : CT} {this : Nat} {p1 : Int32} {p2 : Int32} {r0 : Int32} (hf : pX12_time g h this p1 p2 = some (r0, h0)) : Ctr G dk yX12_time cX12_time 4 (some .int) [va_rf (some this), .int p1, .int p2] g h (some (.int r0)) g h0 := by
  refine Ctr.ofZ (lv := [(0, va_rf (some this)), (1, .int p1), (2, .int p2)]) (by decide +kernel) (by simp [cat_i, cat_l, cat_d, cat_rf]) rfl fun X Z => ?_
  unfold pX12_time at hf
  replace hf := tg_i hf
  obtain ⟨t0, hf⟩ := hf
  refine J_aload_n Z.1 0 dX12_time_0 rfl rfl ?_
  refine J_iload_n Z.1 1 dX12_time_1 rfl rfl ?_
  replace hf := bd_i hf
  obtain ⟨x1, q2, hf⟩ := hf
  refine J_callV (ci := 10) (as := [.int p1]) (rest := []) (sy := [.int x1]) Z.1 dX12_time_2 cw_X12_311 (pX12_isInstruction_ok G (dk - 1) (by omega) q2) rfl rfl t0 (zG Z) rfl (by decide) (zF Z (by omega)) (zO Z (by omega) (by decide)) (zM _) Z.2.1 Z.2.1 rfl rfl ?_
  refine J_if_ne Z.1 14 dX12_time_5 (by decide) (fun c3 => ?_) (fun c3 => ?_)
  · rw [if_neg c3] at hf
    refine J_iload_n Z.1 2 dX12_time_14 rfl rfl ?_
    refine J_iconst Z.1 (v := 0) (by decide) dX12_time_15 ?_
    refine J_iconst Z.1 (v := 1) (by decide) dX12_time_16 ?_
    refine J_callS (as := [.int p2, .int 0, .int 1]) (rest := []) (sy := [.int (pX12_within p2 0 1)]) Z.1 dX12_time_17 cw_X12_109 (pX12_within_ok G (dk - 1) (by omega) g h p2 0 1) (zG Z) rfl (by decide) (zF Z (by omega)) (zO Z (by omega) (by decide)) (zM _) Z.2.1 Z.2.1 rfl rfl ?_
    refine J_if_ne Z.1 29 dX12_time_20 (by decide) (fun c4 => ?_) (fun c4 => ?_)
    · rw [if_neg c4] at hf
      refine J_iload_n Z.1 2 dX12_time_29 rfl rfl ?_
      refine J_if_ne Z.1 45 dX12_time_30 (by decide) (fun c5 => ?_) (fun c5 => ?_)
      · rw [if_neg c5] at hf
        refine J_aload_n Z.1 0 dX12_time_45 rfl rfl ?_
        refine J_get (v := va_rf (hR h this 8)) Z.1 dX12_time_46 fl_X12_57 t0 rfl ?_
        refine J_tr (fun r6 er6 => ?_)
        replace hf := lt_i hf r6 er6
        replace hf := nn_i hf
        obtain ⟨a6, rfl, hf⟩ := hf
        replace hf := tg_i hf
        obtain ⟨t7, hf⟩ := hf
        refine J_get (v := va_rf (hR h a6 7)) Z.1 dX12_time_49 fl_X12_318 t7 rfl ?_
        refine J_tr (fun r8 er8 => ?_)
        replace hf := lt_i hf r8 er8
        refine J_iload_n Z.1 1 dX12_time_52 rfl rfl ?_
        replace hf := nn_i hf
        obtain ⟨a8, rfl, hf⟩ := hf
        replace hf := tg_i hf
        obtain ⟨t9, hf⟩ := hf
        replace hf := ix_i hf
        obtain ⟨i10, hf⟩ := hf
        refine J_iaload Z.1 dX12_time_53 t9 i10 ?_
        refine J_lv [0] rfl ?_
        exact pX12_time_b54_ok Z hK t0  _ _ hf
      · rw [if_pos c5] at hf
        refine J_aload_n Z.1 0 dX12_time_33 rfl rfl ?_
        refine J_get (v := va_rf (hR h this 8)) Z.1 dX12_time_34 fl_X12_57 t0 rfl ?_
        refine J_tr (fun r11 er11 => ?_)
        replace hf := lt_i hf r11 er11
        replace hf := nn_i hf
        obtain ⟨a11, rfl, hf⟩ := hf
        replace hf := tg_i hf
        obtain ⟨t12, hf⟩ := hf
        refine J_get (v := va_rf (hR h a11 6)) Z.1 dX12_time_37 fl_X12_314 t12 rfl ?_
        refine J_tr (fun r13 er13 => ?_)
        replace hf := lt_i hf r13 er13
        refine J_iload_n Z.1 1 dX12_time_40 rfl rfl ?_
        replace hf := nn_i hf
        obtain ⟨a13, rfl, hf⟩ := hf
        replace hf := tg_i hf
        obtain ⟨t14, hf⟩ := hf
        replace hf := ix_i hf
        obtain ⟨i15, hf⟩ := hf
        refine J_iaload Z.1 dX12_time_41 t14 i15 ?_
        refine J_goto Z.1 54 dX12_time_42 (by decide) ?_
        refine J_lv [0] rfl ?_
        exact pX12_time_b54_ok Z hK t0  _ _ hf
    · rw [if_pos c4] at hf
      refine J_aload_n Z.1 0 dX12_time_23 rfl rfl ?_
      refine J_iconst Z.1 (v := 5) (by decide) dX12_time_24 ?_
      replace hf := bd2_i hf
      obtain ⟨x18, h16, q17, hf⟩ := hf
      refine J_callV (ci := 10) (as := [.int 5]) (rest := []) (sy := [.int x18]) Z.1 dX12_time_25 cw_X12_143 (pX12_refuse_ok G (dk - 1) (by omega) q17) rfl rfl t0 (zG Z) rfl (by decide) (zF Z (by omega)) (zO Z (by omega) (by decide)) (zM _) Z.2.1 Z.2.1 rfl rfl ?_
      cases hf
      exact J_iret Z.1 Z.2.2.2.2.2 dX12_time_28
  · rw [if_pos c3] at hf
    refine J_aload_n Z.1 0 dX12_time_8 rfl rfl ?_
    refine J_iconst Z.1 (v := 2) (by decide) dX12_time_9 ?_
    replace hf := bd2_i hf
    obtain ⟨x21, h19, q20, hf⟩ := hf
    refine J_callV (ci := 10) (as := [.int 2]) (rest := []) (sy := [.int x21]) Z.1 dX12_time_10 cw_X12_143 (pX12_refuse_ok G (dk - 1) (by omega) q20) rfl rfl t0 (zG Z) rfl (by decide) (zF Z (by omega)) (zO Z (by omega) (by decide)) (zM _) Z.2.1 Z.2.1 rfl rfl ?_
    cases hf
    exact J_iret Z.1 Z.2.2.2.2.2 dX12_time_13
theorem dX12_sumInto_0 : decode cX12_sumInto 0 = .ok (.iload_n 3, 1) := by decide +kernel
theorem dX12_sumInto_1 : decode cX12_sumInto 1 = .ok (.iconst 2, 1) := by decide +kernel
theorem dX12_sumInto_2 : decode cX12_sumInto 2 = .ok (.if_icmp .ne 31, 3) := by decide +kernel
theorem dX12_sumInto_5 : decode cX12_sumInto 5 = .ok (.aload_n 0, 1) := by decide +kernel
theorem dX12_sumInto_6 : decode cX12_sumInto 6 = .ok (.getfield 50, 3) := by decide +kernel
theorem dX12_sumInto_9 : decode cX12_sumInto 9 = .ok (.aload_n 0, 1) := by decide +kernel
theorem dX12_sumInto_10 : decode cX12_sumInto 10 = .ok (.getfield 30, 3) := by decide +kernel
theorem dX12_sumInto_13 : decode cX12_sumInto 13 = .ok (.getfield 219, 3) := by decide +kernel
theorem dX12_sumInto_16 : decode cX12_sumInto 16 = .ok (.iload_n 2, 1) := by decide +kernel
theorem dX12_sumInto_17 : decode cX12_sumInto 17 = .ok (.aaload, 1) := by decide +kernel
theorem dX12_sumInto_18 : decode cX12_sumInto 18 = .ok (.aload_n 0, 1) := by decide +kernel
theorem dX12_sumInto_19 : decode cX12_sumInto 19 = .ok (.getfield 30, 3) := by decide +kernel
theorem dX12_sumInto_22 : decode cX12_sumInto 22 = .ok (.getfield 193, 3) := by decide +kernel
theorem dX12_sumInto_25 : decode cX12_sumInto 25 = .ok (.iconst 0, 1) := by decide +kernel
theorem dX12_sumInto_26 : decode cX12_sumInto 26 = .ok (.aload_n 1, 1) := by decide +kernel
theorem dX12_sumInto_27 : decode cX12_sumInto 27 = .ok (.invokevirtual 325, 3) := by decide +kernel
theorem dX12_sumInto_30 : decode cX12_sumInto 30 = .ok (.goto 37, 3) := by decide +kernel
theorem dX12_sumInto_33 : decode cX12_sumInto 33 = .ok (.aload_n 0, 1) := by decide +kernel
theorem dX12_sumInto_34 : decode cX12_sumInto 34 = .ok (.getfield 50, 3) := by decide +kernel
theorem dX12_sumInto_37 : decode cX12_sumInto 37 = .ok (.aload_n 0, 1) := by decide +kernel
theorem dX12_sumInto_38 : decode cX12_sumInto 38 = .ok (.getfield 30, 3) := by decide +kernel
theorem dX12_sumInto_41 : decode cX12_sumInto 41 = .ok (.getfield 219, 3) := by decide +kernel
theorem dX12_sumInto_44 : decode cX12_sumInto 44 = .ok (.iload_n 2, 1) := by decide +kernel
theorem dX12_sumInto_45 : decode cX12_sumInto 45 = .ok (.aaload, 1) := by decide +kernel
theorem dX12_sumInto_46 : decode cX12_sumInto 46 = .ok (.aload_n 0, 1) := by decide +kernel
theorem dX12_sumInto_47 : decode cX12_sumInto 47 = .ok (.getfield 30, 3) := by decide +kernel
theorem dX12_sumInto_50 : decode cX12_sumInto 50 = .ok (.getfield 193, 3) := by decide +kernel
theorem dX12_sumInto_53 : decode cX12_sumInto 53 = .ok (.iload_n 3, 1) := by decide +kernel
theorem dX12_sumInto_54 : decode cX12_sumInto 54 = .ok (.iconst 1, 1) := by decide +kernel
theorem dX12_sumInto_55 : decode cX12_sumInto 55 = .ok (.if_icmp .ne 7, 3) := by decide +kernel
theorem dX12_sumInto_58 : decode cX12_sumInto 58 = .ok (.iconst 1, 1) := by decide +kernel
theorem dX12_sumInto_59 : decode cX12_sumInto 59 = .ok (.goto 4, 3) := by decide +kernel
theorem dX12_sumInto_62 : decode cX12_sumInto 62 = .ok (.iconst 0, 1) := by decide +kernel
theorem dX12_sumInto_63 : decode cX12_sumInto 63 = .ok (.aload_n 1, 1) := by decide +kernel
theorem dX12_sumInto_64 : decode cX12_sumInto 64 = .ok (.invokevirtual 329, 3) := by decide +kernel
theorem dX12_sumInto_67 : decode cX12_sumInto 67 = .ok (.return_, 1) := by decide +kernel
def pX12_sumInto_b63 (g : MT) (this : Nat) (p1 : Nat) (p2 : Int32) (p3 : Int32) (r80 : Option Nat) (r81 : Option Nat) (s2 : Int32) (s3 : Int32) (h : CT) : Option CT := nn r80 fun a80 => (tg g a80 8 (nn r81 fun a81 => (bd (pX9_addUp g h a80 a81 s2 s3 p1) fun h2 => (some h2))))
set_option maxRecDepth 10000 in
set_option maxHeartbeats 4000000 in
theorem pX12_sumInto_b63_ok {X : Cx} {G : Gx} {dk : Nat} {g : MT} {h0 : CT} {this : Nat} {p1 : Nat} {p2 : Int32} {p3 : Int32} (Z : Zx X G cX12_sumInto RX12 4 dk none none g h0) (hK : 3 ≤ dk) (t0 : gT g this = 11) (r80 : Option Nat) (r81 : Option Nat) (s2 : Int32) (s3 : Int32) (h : CT) (hf : pX12_sumInto_b63 g this p1 p2 p3 r80 r81 s2 s3 h = some h0) : J X g h 63 [(1, va_rf (some p1))] [.int s3, .int s2, va_rf r81, va_rf r80] := by
  unfold pX12_sumInto_b63 at hf
  refine J_aload_n Z.1 0 dX12_sumInto_63 rfl rfl ?_
  replace hf := nn_i hf
  obtain ⟨a80, rfl, hf⟩ := hf
  replace hf := tg_i hf
  obtain ⟨t1, hf⟩ := hf
  replace hf := nn_i hf
  obtain ⟨a81, rfl, hf⟩ := hf
  replace hf := bd_i hf
  obtain ⟨h2, q3, hf⟩ := hf
  refine J_callV (ci := 7) (as := [va_rf (some a81), .int s2, .int s3, va_rf (some p1)]) (rest := []) (sy := []) Z.1 dX12_sumInto_64 cw_X12_329 (pX9_addUp_ok G (dk - 1) (by omega) q3) rfl rfl t1 (zG Z) rfl (by decide) (zF Z (by omega)) (zO Z (by omega) (by decide)) (zM _) Z.2.1 Z.2.1 rfl rfl ?_
  cases hf
  exact J_vret Z.1 Z.2.2.2.2.2 dX12_sumInto_67
def pX12_sumInto (g : MT) (h : CT) (this : Nat) (p1 : Nat) (p2 : Int32) (p3 : Int32) : Option CT := tg g this 11 (if p3 = 2 then lt (hR h this 7) fun r12 => (lt (hR h this 4) fun r13 => (nn r13 fun a13 => (tg g a13 3 (lt (hR h a13 0) fun r15 => (nn r15 fun a15 => (tg g a15 27 (ix (gL g a15) p2 (lt (hR h a15 (Int32.toNatClampNeg p2)) fun r18 => (lt (hR h this 4) fun r19 => (nn r19 fun a19 => (tg g a19 3 (nn r12 fun a12 => (tg g a12 8 (nn r18 fun a18 => (bd (pX9_halve g h a12 a18 (hI h a19 5) 0 p1) fun h22 => (some h22)))))))))))))))) else lt (hR h this 7) fun r2 => (lt (hR h this 4) fun r3 => (nn r3 fun a3 => (tg g a3 3 (lt (hR h a3 0) fun r5 => (nn r5 fun a5 => (tg g a5 27 (ix (gL g a5) p2 (lt (hR h a5 (Int32.toNatClampNeg p2)) fun r8 => (lt (hR h this 4) fun r9 => (nn r9 fun a9 => (tg g a9 3 (if p3 = 1 then pX12_sumInto_b63 g this p1 p2 p3  r2 r8 (hI h a9 5) 1 h else pX12_sumInto_b63 g this p1 p2 p3  r2 r8 (hI h a9 5) 0 h)))))))))))))
set_option maxRecDepth 10000 in
set_option maxHeartbeats 4000000 in
theorem pX12_sumInto_ok (G : Gx) (dk : Nat) (hK : 3 ≤ dk) {g : MT} {h h0 : CT} {this : Nat} {p1 : Nat} {p2 : Int32} {p3 : Int32} (hf : pX12_sumInto g h this p1 p2 p3 = some h0) : Ctr G dk yX12_sumInto cX12_sumInto 4 none [va_rf (some this), va_rf (some p1), .int p2, .int p3] g h none g h0 := by
  refine Ctr.ofZ (lv := [(0, va_rf (some this)), (1, va_rf (some p1)), (2, .int p2), (3, .int p3)]) (by decide +kernel) (by simp [cat_i, cat_l, cat_d, cat_rf]) rfl fun X Z => ?_
  unfold pX12_sumInto at hf
  replace hf := tg_i hf
  obtain ⟨t0, hf⟩ := hf
  refine J_iload_n Z.1 3 dX12_sumInto_0 rfl rfl ?_
  refine J_iconst Z.1 (v := 2) (by decide) dX12_sumInto_1 ?_
  refine J_icmp_ne Z.1 33 dX12_sumInto_2 (by decide) (fun c1 => ?_) (fun c1 => ?_)
  · rw [if_neg c1] at hf
    refine J_aload_n Z.1 0 dX12_sumInto_33 rfl rfl ?_
    refine J_get (v := va_rf (hR h this 7)) Z.1 dX12_sumInto_34 fl_X12_50 t0 rfl ?_
    refine J_tr (fun r2 er2 => ?_)
    replace hf := lt_i hf r2 er2
    refine J_aload_n Z.1 0 dX12_sumInto_37 rfl rfl ?_
    refine J_get (v := va_rf (hR h this 4)) Z.1 dX12_sumInto_38 fl_X12_30 t0 rfl ?_
    refine J_tr (fun r3 er3 => ?_)
    replace hf := lt_i hf r3 er3
    replace hf := nn_i hf
    obtain ⟨a3, rfl, hf⟩ := hf
    replace hf := tg_i hf
    obtain ⟨t4, hf⟩ := hf
    refine J_get (v := va_rf (hR h a3 0)) Z.1 dX12_sumInto_41 fl_X12_219 t4 rfl ?_
    refine J_tr (fun r5 er5 => ?_)
    replace hf := lt_i hf r5 er5
    refine J_iload_n Z.1 2 dX12_sumInto_44 rfl rfl ?_
    replace hf := nn_i hf
    obtain ⟨a5, rfl, hf⟩ := hf
    replace hf := tg_i hf
    obtain ⟨t6, hf⟩ := hf
    replace hf := ix_i hf
    obtain ⟨i7, hf⟩ := hf
    refine J_aaload (t := 7) Z.1 dX12_sumInto_45 t6 rfl i7 ?_
    refine J_tr (fun r8 er8 => ?_)
    replace hf := lt_i hf r8 er8
    refine J_aload_n Z.1 0 dX12_sumInto_46 rfl rfl ?_
    refine J_get (v := va_rf (hR h this 4)) Z.1 dX12_sumInto_47 fl_X12_30 t0 rfl ?_
    refine J_tr (fun r9 er9 => ?_)
    replace hf := lt_i hf r9 er9
    replace hf := nn_i hf
    obtain ⟨a9, rfl, hf⟩ := hf
    replace hf := tg_i hf
    obtain ⟨t10, hf⟩ := hf
    refine J_get (v := .int (hI h a9 5)) Z.1 dX12_sumInto_50 fl_X12_193 t10 rfl ?_
    refine J_iload_n Z.1 3 dX12_sumInto_53 rfl rfl ?_
    refine J_iconst Z.1 (v := 1) (by decide) dX12_sumInto_54 ?_
    refine J_icmp_ne Z.1 62 dX12_sumInto_55 (by decide) (fun c11 => ?_) (fun c11 => ?_)
    · rw [if_neg c11] at hf
      refine J_iconst Z.1 (v := 0) (by decide) dX12_sumInto_62 ?_
      refine J_lv [1] rfl ?_
      exact pX12_sumInto_b63_ok Z hK t0  _ _ _ _ _ hf
    · rw [if_pos c11] at hf
      refine J_iconst Z.1 (v := 1) (by decide) dX12_sumInto_58 ?_
      refine J_goto Z.1 63 dX12_sumInto_59 (by decide) ?_
      refine J_lv [1] rfl ?_
      exact pX12_sumInto_b63_ok Z hK t0  _ _ _ _ _ hf
  · rw [if_pos c1] at hf
    refine J_aload_n Z.1 0 dX12_sumInto_5 rfl rfl ?_
    refine J_get (v := va_rf (hR h this 7)) Z.1 dX12_sumInto_6 fl_X12_50 t0 rfl ?_
    refine J_tr (fun r12 er12 => ?_)
    replace hf := lt_i hf r12 er12
    refine J_aload_n Z.1 0 dX12_sumInto_9 rfl rfl ?_
    refine J_get (v := va_rf (hR h this 4)) Z.1 dX12_sumInto_10 fl_X12_30 t0 rfl ?_
    refine J_tr (fun r13 er13 => ?_)
    replace hf := lt_i hf r13 er13
    replace hf := nn_i hf
    obtain ⟨a13, rfl, hf⟩ := hf
    replace hf := tg_i hf
    obtain ⟨t14, hf⟩ := hf
    refine J_get (v := va_rf (hR h a13 0)) Z.1 dX12_sumInto_13 fl_X12_219 t14 rfl ?_
    refine J_tr (fun r15 er15 => ?_)
    replace hf := lt_i hf r15 er15
    refine J_iload_n Z.1 2 dX12_sumInto_16 rfl rfl ?_
    replace hf := nn_i hf
    obtain ⟨a15, rfl, hf⟩ := hf
    replace hf := tg_i hf
    obtain ⟨t16, hf⟩ := hf
    replace hf := ix_i hf
    obtain ⟨i17, hf⟩ := hf
    refine J_aaload (t := 7) Z.1 dX12_sumInto_17 t16 rfl i17 ?_
    refine J_tr (fun r18 er18 => ?_)
    replace hf := lt_i hf r18 er18
    refine J_aload_n Z.1 0 dX12_sumInto_18 rfl rfl ?_
    refine J_get (v := va_rf (hR h this 4)) Z.1 dX12_sumInto_19 fl_X12_30 t0 rfl ?_
    refine J_tr (fun r19 er19 => ?_)
    replace hf := lt_i hf r19 er19
    replace hf := nn_i hf
    obtain ⟨a19, rfl, hf⟩ := hf
    replace hf := tg_i hf
    obtain ⟨t20, hf⟩ := hf
    refine J_get (v := .int (hI h a19 5)) Z.1 dX12_sumInto_22 fl_X12_193 t20 rfl ?_
    refine J_iconst Z.1 (v := 0) (by decide) dX12_sumInto_25 ?_
    refine J_aload_n Z.1 1 dX12_sumInto_26 rfl rfl ?_
    replace hf := nn_i hf
    obtain ⟨a12, rfl, hf⟩ := hf
    replace hf := tg_i hf
    obtain ⟨t21, hf⟩ := hf
    replace hf := nn_i hf
    obtain ⟨a18, rfl, hf⟩ := hf
    replace hf := bd_i hf
    obtain ⟨h22, q23, hf⟩ := hf
    refine J_callV (ci := 7) (as := [va_rf (some a18), .int (hI h a19 5), .int 0, va_rf (some p1)]) (rest := []) (sy := []) Z.1 dX12_sumInto_27 cw_X12_325 (pX9_halve_ok G (dk - 1) (by omega) q23) rfl rfl t21 (zG Z) rfl (by decide) (zF Z (by omega)) (zO Z (by omega) (by decide)) (zM _) Z.2.1 Z.2.1 rfl rfl ?_
    refine J_goto Z.1 67 dX12_sumInto_30 (by decide) ?_
    cases hf
    exact J_vret Z.1 Z.2.2.2.2.2 dX12_sumInto_67
theorem dX12_sums_0 : decode cX12_sums 0 = .ok (.aload_n 0, 1) := by decide +kernel
theorem dX12_sums_1 : decode cX12_sums 1 = .ok (.iload_n 1, 1) := by decide +kernel
theorem dX12_sums_2 : decode cX12_sums 2 = .ok (.invokevirtual 216, 3) := by decide +kernel
theorem dX12_sums_5 : decode cX12_sums 5 = .ok (.istore_n 2, 1) := by decide +kernel
theorem dX12_sums_6 : decode cX12_sums 6 = .ok (.iload_n 2, 1) := by decide +kernel
theorem dX12_sums_7 : decode cX12_sums 7 = .ok (.ifCond .eq 9, 3) := by decide +kernel
theorem dX12_sums_10 : decode cX12_sums 10 = .ok (.aload_n 0, 1) := by decide +kernel
theorem dX12_sums_11 : decode cX12_sums 11 = .ok (.iload_n 2, 1) := by decide +kernel
theorem dX12_sums_12 : decode cX12_sums 12 = .ok (.invokevirtual 143, 3) := by decide +kernel
theorem dX12_sums_15 : decode cX12_sums 15 = .ok (.ireturn, 1) := by decide +kernel
theorem dX12_sums_16 : decode cX12_sums 16 = .ok (.aload_n 0, 1) := by decide +kernel
theorem dX12_sums_17 : decode cX12_sums 17 = .ok (.aload_n 0, 1) := by decide +kernel
theorem dX12_sums_18 : decode cX12_sums 18 = .ok (.getfield 81, 3) := by decide +kernel
theorem dX12_sums_21 : decode cX12_sums 21 = .ok (.iload_n 1, 1) := by decide +kernel
theorem dX12_sums_22 : decode cX12_sums 22 = .ok (.iconst 0, 1) := by decide +kernel
theorem dX12_sums_23 : decode cX12_sums 23 = .ok (.invokevirtual 321, 3) := by decide +kernel
theorem dX12_sums_26 : decode cX12_sums 26 = .ok (.aload_n 0, 1) := by decide +kernel
theorem dX12_sums_27 : decode cX12_sums 27 = .ok (.aload_n 0, 1) := by decide +kernel
theorem dX12_sums_28 : decode cX12_sums 28 = .ok (.getfield 84, 3) := by decide +kernel
theorem dX12_sums_31 : decode cX12_sums 31 = .ok (.iload_n 1, 1) := by decide +kernel
theorem dX12_sums_32 : decode cX12_sums 32 = .ok (.iconst 1, 1) := by decide +kernel
theorem dX12_sums_33 : decode cX12_sums 33 = .ok (.invokevirtual 321, 3) := by decide +kernel
theorem dX12_sums_36 : decode cX12_sums 36 = .ok (.aload_n 0, 1) := by decide +kernel
theorem dX12_sums_37 : decode cX12_sums 37 = .ok (.getfield 81, 3) := by decide +kernel
theorem dX12_sums_40 : decode cX12_sums 40 = .ok (.aload_n 0, 1) := by decide +kernel
theorem dX12_sums_41 : decode cX12_sums 41 = .ok (.getfield 84, 3) := by decide +kernel
theorem dX12_sums_44 : decode cX12_sums 44 = .ok (.invokevirtual 332, 3) := by decide +kernel
theorem dX12_sums_47 : decode cX12_sums 47 = .ok (.istore_n 3, 1) := by decide +kernel
theorem dX12_sums_48 : decode cX12_sums 48 = .ok (.aload_n 0, 1) := by decide +kernel
theorem dX12_sums_49 : decode cX12_sums 49 = .ok (.aload_n 0, 1) := by decide +kernel
theorem dX12_sums_50 : decode cX12_sums 50 = .ok (.getfield 87, 3) := by decide +kernel
theorem dX12_sums_53 : decode cX12_sums 53 = .ok (.iload_n 1, 1) := by decide +kernel
theorem dX12_sums_54 : decode cX12_sums 54 = .ok (.iconst 2, 1) := by decide +kernel
theorem dX12_sums_55 : decode cX12_sums 55 = .ok (.invokevirtual 321, 3) := by decide +kernel
theorem dX12_sums_58 : decode cX12_sums 58 = .ok (.aload_n 0, 1) := by decide +kernel
theorem dX12_sums_59 : decode cX12_sums 59 = .ok (.getfield 87, 3) := by decide +kernel
theorem dX12_sums_62 : decode cX12_sums 62 = .ok (.aload_n 0, 1) := by decide +kernel
theorem dX12_sums_63 : decode cX12_sums 63 = .ok (.getfield 81, 3) := by decide +kernel
theorem dX12_sums_66 : decode cX12_sums 66 = .ok (.invokevirtual 332, 3) := by decide +kernel
theorem dX12_sums_69 : decode cX12_sums 69 = .ok (.ifCond .ne 17, 3) := by decide +kernel
theorem dX12_sums_72 : decode cX12_sums 72 = .ok (.aload_n 0, 1) := by decide +kernel
theorem dX12_sums_73 : decode cX12_sums 73 = .ok (.getfield 87, 3) := by decide +kernel
theorem dX12_sums_76 : decode cX12_sums 76 = .ok (.aload_n 0, 1) := by decide +kernel
theorem dX12_sums_77 : decode cX12_sums 77 = .ok (.getfield 84, 3) := by decide +kernel
theorem dX12_sums_80 : decode cX12_sums 80 = .ok (.invokevirtual 332, 3) := by decide +kernel
theorem dX12_sums_83 : decode cX12_sums 83 = .ok (.ifCond .eq 7, 3) := by decide +kernel
theorem dX12_sums_86 : decode cX12_sums 86 = .ok (.iconst 1, 1) := by decide +kernel
theorem dX12_sums_87 : decode cX12_sums 87 = .ok (.goto 4, 3) := by decide +kernel
theorem dX12_sums_90 : decode cX12_sums 90 = .ok (.iconst 0, 1) := by decide +kernel
theorem dX12_sums_91 : decode cX12_sums 91 = .ok (.istore 4, 2) := by decide +kernel
theorem dX12_sums_93 : decode cX12_sums 93 = .ok (.aload_n 0, 1) := by decide +kernel
theorem dX12_sums_94 : decode cX12_sums 94 = .ok (.iconst 1, 1) := by decide +kernel
theorem dX12_sums_95 : decode cX12_sums 95 = .ok (.iload_n 3, 1) := by decide +kernel
theorem dX12_sums_96 : decode cX12_sums 96 = .ok (.ifCond .eq 7, 3) := by decide +kernel
theorem dX12_sums_99 : decode cX12_sums 99 = .ok (.iconst 0, 1) := by decide +kernel
theorem dX12_sums_100 : decode cX12_sums 100 = .ok (.goto 4, 3) := by decide +kernel
theorem dX12_sums_103 : decode cX12_sums 103 = .ok (.iconst 1, 1) := by decide +kernel
theorem dX12_sums_104 : decode cX12_sums 104 = .ok (.iadd, 1) := by decide +kernel
theorem dX12_sums_105 : decode cX12_sums 105 = .ok (.iload 4, 2) := by decide +kernel
theorem dX12_sums_107 : decode cX12_sums 107 = .ok (.ifCond .eq 7, 3) := by decide +kernel
theorem dX12_sums_110 : decode cX12_sums 110 = .ok (.iconst 0, 1) := by decide +kernel
theorem dX12_sums_111 : decode cX12_sums 111 = .ok (.goto 4, 3) := by decide +kernel
theorem dX12_sums_114 : decode cX12_sums 114 = .ok (.iconst 1, 1) := by decide +kernel
theorem dX12_sums_115 : decode cX12_sums 115 = .ok (.iadd, 1) := by decide +kernel
theorem dX12_sums_116 : decode cX12_sums 116 = .ok (.invokevirtual 105, 3) := by decide +kernel
theorem dX12_sums_119 : decode cX12_sums 119 = .ok (.ireturn, 1) := by decide +kernel
def pX12_sums_b115 (g : MT) (this : Nat) (p1 : Int32) (s0 : Nat) (s1 : Int32) (s2 : Int32) (h : CT) : Option ((Int32) × CT) := tg g s0 11 (bd2 (pX12_answer g h s0 (s1 + s2)) fun x4 h2 => (some (x4, h2)))
set_option maxRecDepth 10000 in
set_option maxHeartbeats 4000000 in
theorem pX12_sums_b115_ok {X : Cx} {G : Gx} {dk : Nat} {g : MT} {r0 : Int32} {h0 : CT} {this : Nat} {p1 : Int32} (Z : Zx X G cX12_sums RX12 5 dk (some .int) (some (.int r0)) g h0) (hK : 4 ≤ dk) (t0 : gT g this = 11) (s0 : Nat) (s1 : Int32) (s2 : Int32) (h : CT) (hf : pX12_sums_b115 g this p1 s0 s1 s2 h = some (r0, h0)) : J X g h 115 [] [.int s2, .int s1, va_rf (some s0)] := by
  unfold pX12_sums_b115 at hf
  refine J_iadd Z.1 dX12_sums_115 ?_
  replace hf := tg_i hf
  obtain ⟨t1, hf⟩ := hf
  replace hf := bd2_i hf
  obtain ⟨x4, h2, q3, hf⟩ := hf
  refine J_callV (ci := 10) (as := [.int (s1 + s2)]) (rest := []) (sy := [.int x4]) Z.1 dX12_sums_116 cw_X12_105 (pX12_answer_ok G (dk - 1) (by omega) q3) rfl rfl t1 (zG Z) rfl (by decide) (zF Z (by omega)) (zO Z (by omega) (by decide)) (zM _) Z.2.1 Z.2.1 rfl rfl ?_
  cases hf
  exact J_iret Z.1 Z.2.2.2.2.2 dX12_sums_119
def pX12_sums_b104 (g : MT) (this : Nat) (p1 : Int32) (l4 : Int32) (s0 : Nat) (s1 : Int32) (s2 : Int32) (h : CT) : Option ((Int32) × CT) := if l4 = 0 then pX12_sums_b115 g this p1  s0 (s1 + s2) 1 h else pX12_sums_b115 g this p1  s0 (s1 + s2) 0 h
set_option maxRecDepth 10000 in
set_option maxHeartbeats 4000000 in
theorem pX12_sums_b104_ok {X : Cx} {G : Gx} {dk : Nat} {g : MT} {r0 : Int32} {h0 : CT} {this : Nat} {p1 : Int32} (Z : Zx X G cX12_sums RX12 5 dk (some .int) (some (.int r0)) g h0) (hK : 4 ≤ dk) (t0 : gT g this = 11) (l4 : Int32) (s0 : Nat) (s1 : Int32) (s2 : Int32) (h : CT) (hf : pX12_sums_b104 g this p1 l4 s0 s1 s2 h = some (r0, h0)) : J X g h 104 [(4, .int l4)] [.int s2, .int s1, va_rf (some s0)] := by
  unfold pX12_sums_b104 at hf
  refine J_iadd Z.1 dX12_sums_104 ?_
  refine J_iload Z.1 0 dX12_sums_105 rfl ?_
  refine J_if_eq Z.1 114 dX12_sums_107 (by decide) (fun c1 => ?_) (fun c1 => ?_)
  · rw [if_pos c1] at hf
    refine J_iconst Z.1 (v := 1) (by decide) dX12_sums_114 ?_
    refine J_lv [] rfl ?_
    exact pX12_sums_b115_ok Z hK t0  _ _ _ _ hf
  · rw [if_neg c1] at hf
    refine J_iconst Z.1 (v := 0) (by decide) dX12_sums_110 ?_
    refine J_goto Z.1 115 dX12_sums_111 (by decide) ?_
    refine J_lv [] rfl ?_
    exact pX12_sums_b115_ok Z hK t0  _ _ _ _ hf
def pX12_sums_b91 (g : MT) (this : Nat) (p1 : Int32) (l3 : Int32) (s0 : Int32) (h : CT) : Option ((Int32) × CT) := if l3 = 0 then pX12_sums_b104 g this p1  s0 this 1 1 h else pX12_sums_b104 g this p1  s0 this 1 0 h
set_option maxRecDepth 10000 in
set_option maxHeartbeats 4000000 in
theorem pX12_sums_b91_ok {X : Cx} {G : Gx} {dk : Nat} {g : MT} {r0 : Int32} {h0 : CT} {this : Nat} {p1 : Int32} (Z : Zx X G cX12_sums RX12 5 dk (some .int) (some (.int r0)) g h0) (hK : 4 ≤ dk) (t0 : gT g this = 11) (l3 : Int32) (s0 : Int32) (h : CT) (hf : pX12_sums_b91 g this p1 l3 s0 h = some (r0, h0)) : J X g h 91 [(0, va_rf (some this)), (3, .int l3)] [.int s0] := by
  unfold pX12_sums_b91 at hf
  refine J_istore Z.1 (lv2 := [(4, .int s0), (0, va_rf (some this)), (3, .int l3)]) dX12_sums_91 (zL Z (by decide)) rfl ?_
  refine J_aload_n Z.1 1 dX12_sums_93 rfl rfl ?_
  refine J_iconst Z.1 (v := 1) (by decide) dX12_sums_94 ?_
  refine J_iload_n Z.1 2 dX12_sums_95 rfl rfl ?_
  refine J_if_eq Z.1 103 dX12_sums_96 (by decide) (fun c1 => ?_) (fun c1 => ?_)
  · rw [if_pos c1] at hf
    refine J_iconst Z.1 (v := 1) (by decide) dX12_sums_103 ?_
    refine J_lv [0] rfl ?_
    exact pX12_sums_b104_ok Z hK t0  _ _ _ _ _ hf
  · rw [if_neg c1] at hf
    refine J_iconst Z.1 (v := 0) (by decide) dX12_sums_99 ?_
    refine J_goto Z.1 104 dX12_sums_100 (by decide) ?_
    refine J_lv [0] rfl ?_
    exact pX12_sums_b104_ok Z hK t0  _ _ _ _ _ hf
def pX12_sums_b86 (g : MT) (this : Nat) (p1 : Int32) (l3 : Int32) (h : CT) : Option ((Int32) × CT) := pX12_sums_b91 g this p1  l3 1 h
set_option maxRecDepth 10000 in
set_option maxHeartbeats 4000000 in
theorem pX12_sums_b86_ok {X : Cx} {G : Gx} {dk : Nat} {g : MT} {r0 : Int32} {h0 : CT} {this : Nat} {p1 : Int32} (Z : Zx X G cX12_sums RX12 5 dk (some .int) (some (.int r0)) g h0) (hK : 4 ≤ dk) (t0 : gT g this = 11) (l3 : Int32) (h : CT) (hf : pX12_sums_b86 g this p1 l3 h = some (r0, h0)) : J X g h 86 [(0, va_rf (some this)), (3, .int l3)] [] := by
  unfold pX12_sums_b86 at hf
  refine J_iconst Z.1 (v := 1) (by decide) dX12_sums_86 ?_
  refine J_goto Z.1 91 dX12_sums_87 (by decide) ?_
  exact pX12_sums_b91_ok Z hK t0  _ _ _ hf
def pX12_sums (g : MT) (h : CT) (this : Nat) (p1 : Int32) : Option ((Int32) × CT) := tg g this 11 (bd (pX12_rowTrouble g h this p1) fun x1 => (if x1 = 0 then lt (hR h this 16) fun r4 => (nn r4 fun a4 => (bd (pX12_sumInto g h this a4 p1 0) fun h5 => (lt (hR h5 this 17) fun r7 => (nn r7 fun a7 => (bd (pX12_sumInto g h5 this a7 p1 1) fun h8 => (lt (hR h8 this 16) fun r10 => (lt (hR h8 this 17) fun r11 => (nn r10 fun a10 => (tg g a10 4 (nn r11 fun a11 => (bd (pX4_alike g h8 a10 a11) fun x13 => (lt (hR h8 this 18) fun r15 => (nn r15 fun a15 => (bd (pX12_sumInto g h8 this a15 p1 2) fun h16 => (lt (hR h16 this 18) fun r18 => (lt (hR h16 this 16) fun r19 => (nn r18 fun a18 => (tg g a18 4 (nn r19 fun a19 => (bd (pX4_alike g h16 a18 a19) fun x21 => (if x21 = 0 then lt (hR h16 this 18) fun r24 => (lt (hR h16 this 17) fun r25 => (nn r24 fun a24 => (tg g a24 4 (nn r25 fun a25 => (bd (pX4_alike g h16 a24 a25) fun x27 => (if x27 = 0 then pX12_sums_b91 g this p1  x13 0 h16 else pX12_sums_b86 g this p1  x13 h16)))))) else pX12_sums_b86 g this p1  x13 h16))))))))))))))))))))) else bd2 (pX12_refuse g h this x1) fun x32 h30 => (some (x32, h30))))
set_option maxRecDepth 10000 in
set_option maxHeartbeats 4000000 in
theorem pX12_sums_ok (G : Gx) (dk : Nat) (hK : 4 ≤ dk) {g : MT} {h h0 : CT} {this : Nat} {p1 : Int32} {r0 : Int32} (hf : pX12_sums g h this p1 = some (r0, h0)) : Ctr G dk yX12_sums cX12_sums 5 (some .int) [va_rf (some this), .int p1] g h (some (.int r0)) g h0 := by
  refine Ctr.ofZ (lv := [(0, va_rf (some this)), (1, .int p1)]) (by decide +kernel) (by simp [cat_i, cat_l, cat_d, cat_rf]) rfl fun X Z => ?_
  unfold pX12_sums at hf
  replace hf := tg_i hf
  obtain ⟨t0, hf⟩ := hf
  refine J_aload_n Z.1 0 dX12_sums_0 rfl rfl ?_
  refine J_iload_n Z.1 1 dX12_sums_1 rfl rfl ?_
  replace hf := bd_i hf
  obtain ⟨x1, q2, hf⟩ := hf
  refine J_callV (ci := 10) (as := [.int p1]) (rest := []) (sy := [.int x1]) Z.1 dX12_sums_2 cw_X12_216 (pX12_rowTrouble_ok G (dk - 1) (by omega) q2) rfl rfl t0 (zG Z) rfl (by decide) (zF Z (by omega)) (zO Z (by omega) (by decide)) (zM _) Z.2.1 Z.2.1 rfl rfl ?_
  refine J_istore_n Z.1 (lv2 := [(2, .int x1), (0, va_rf (some this)), (1, .int p1)]) dX12_sums_5 rfl (zL Z (by decide)) rfl ?_
  refine J_iload_n Z.1 0 dX12_sums_6 rfl rfl ?_
  refine J_if_eq Z.1 16 dX12_sums_7 (by decide) (fun c3 => ?_) (fun c3 => ?_)
  · rw [if_pos c3] at hf
    refine J_aload_n Z.1 1 dX12_sums_16 rfl rfl ?_
    refine J_aload_n Z.1 1 dX12_sums_17 rfl rfl ?_
    refine J_get (v := va_rf (hR h this 16)) Z.1 dX12_sums_18 fl_X12_81 t0 rfl ?_
    refine J_tr (fun r4 er4 => ?_)
    replace hf := lt_i hf r4 er4
    refine J_iload_n Z.1 2 dX12_sums_21 rfl rfl ?_
    refine J_iconst Z.1 (v := 0) (by decide) dX12_sums_22 ?_
    replace hf := nn_i hf
    obtain ⟨a4, rfl, hf⟩ := hf
    replace hf := bd_i hf
    obtain ⟨h5, q6, hf⟩ := hf
    refine J_callV (ci := 10) (as := [va_rf (some a4), .int p1, .int 0]) (rest := []) (sy := []) Z.1 dX12_sums_23 cw_X12_321 (pX12_sumInto_ok G (dk - 1) (by omega) q6) rfl rfl t0 (zG Z) rfl (by decide) (zF Z (by omega)) (zO Z (by omega) (by decide)) (zM _) Z.2.1 Z.2.1 rfl rfl ?_
    refine J_aload_n Z.1 1 dX12_sums_26 rfl rfl ?_
    refine J_aload_n Z.1 1 dX12_sums_27 rfl rfl ?_
    refine J_get (v := va_rf (hR h5 this 17)) Z.1 dX12_sums_28 fl_X12_84 t0 rfl ?_
    refine J_tr (fun r7 er7 => ?_)
    replace hf := lt_i hf r7 er7
    refine J_iload_n Z.1 2 dX12_sums_31 rfl rfl ?_
    refine J_iconst Z.1 (v := 1) (by decide) dX12_sums_32 ?_
    replace hf := nn_i hf
    obtain ⟨a7, rfl, hf⟩ := hf
    replace hf := bd_i hf
    obtain ⟨h8, q9, hf⟩ := hf
    refine J_callV (ci := 10) (as := [va_rf (some a7), .int p1, .int 1]) (rest := []) (sy := []) Z.1 dX12_sums_33 cw_X12_321 (pX12_sumInto_ok G (dk - 1) (by omega) q9) rfl rfl t0 (zG Z) rfl (by decide) (zF Z (by omega)) (zO Z (by omega) (by decide)) (zM _) Z.2.1 Z.2.1 rfl rfl ?_
    refine J_aload_n Z.1 1 dX12_sums_36 rfl rfl ?_
    refine J_get (v := va_rf (hR h8 this 16)) Z.1 dX12_sums_37 fl_X12_81 t0 rfl ?_
    refine J_tr (fun r10 er10 => ?_)
    replace hf := lt_i hf r10 er10
    refine J_aload_n Z.1 1 dX12_sums_40 rfl rfl ?_
    refine J_get (v := va_rf (hR h8 this 17)) Z.1 dX12_sums_41 fl_X12_84 t0 rfl ?_
    refine J_tr (fun r11 er11 => ?_)
    replace hf := lt_i hf r11 er11
    replace hf := nn_i hf
    obtain ⟨a10, rfl, hf⟩ := hf
    replace hf := tg_i hf
    obtain ⟨t12, hf⟩ := hf
    replace hf := nn_i hf
    obtain ⟨a11, rfl, hf⟩ := hf
    replace hf := bd_i hf
    obtain ⟨x13, q14, hf⟩ := hf
    refine J_callV (ci := 3) (as := [va_rf (some a11)]) (rest := []) (sy := [.int x13]) Z.1 dX12_sums_44 cw_X12_332 (pX4_alike_ok G (dk - 1) (by omega) q14) rfl rfl t12 (zG Z) rfl (by decide) (zF Z (by omega)) (zO Z (by omega) (by decide)) (zM _) Z.2.1 Z.2.1 rfl rfl ?_
    refine J_istore_n Z.1 (lv2 := [(3, .int x13), (2, .int x1), (0, va_rf (some this)), (1, .int p1)]) dX12_sums_47 rfl (zL Z (by decide)) rfl ?_
    refine J_aload_n Z.1 2 dX12_sums_48 rfl rfl ?_
    refine J_aload_n Z.1 2 dX12_sums_49 rfl rfl ?_
    refine J_get (v := va_rf (hR h8 this 18)) Z.1 dX12_sums_50 fl_X12_87 t0 rfl ?_
    refine J_tr (fun r15 er15 => ?_)
    replace hf := lt_i hf r15 er15
    refine J_iload_n Z.1 3 dX12_sums_53 rfl rfl ?_
    refine J_iconst Z.1 (v := 2) (by decide) dX12_sums_54 ?_
    replace hf := nn_i hf
    obtain ⟨a15, rfl, hf⟩ := hf
    replace hf := bd_i hf
    obtain ⟨h16, q17, hf⟩ := hf
    refine J_callV (ci := 10) (as := [va_rf (some a15), .int p1, .int 2]) (rest := []) (sy := []) Z.1 dX12_sums_55 cw_X12_321 (pX12_sumInto_ok G (dk - 1) (by omega) q17) rfl rfl t0 (zG Z) rfl (by decide) (zF Z (by omega)) (zO Z (by omega) (by decide)) (zM _) Z.2.1 Z.2.1 rfl rfl ?_
    refine J_aload_n Z.1 2 dX12_sums_58 rfl rfl ?_
    refine J_get (v := va_rf (hR h16 this 18)) Z.1 dX12_sums_59 fl_X12_87 t0 rfl ?_
    refine J_tr (fun r18 er18 => ?_)
    replace hf := lt_i hf r18 er18
    refine J_aload_n Z.1 2 dX12_sums_62 rfl rfl ?_
    refine J_get (v := va_rf (hR h16 this 16)) Z.1 dX12_sums_63 fl_X12_81 t0 rfl ?_
    refine J_tr (fun r19 er19 => ?_)
    replace hf := lt_i hf r19 er19
    replace hf := nn_i hf
    obtain ⟨a18, rfl, hf⟩ := hf
    replace hf := tg_i hf
    obtain ⟨t20, hf⟩ := hf
    replace hf := nn_i hf
    obtain ⟨a19, rfl, hf⟩ := hf
    replace hf := bd_i hf
    obtain ⟨x21, q22, hf⟩ := hf
    refine J_callV (ci := 3) (as := [va_rf (some a19)]) (rest := []) (sy := [.int x21]) Z.1 dX12_sums_66 cw_X12_332 (pX4_alike_ok G (dk - 1) (by omega) q22) rfl rfl t20 (zG Z) rfl (by decide) (zF Z (by omega)) (zO Z (by omega) (by decide)) (zM _) Z.2.1 Z.2.1 rfl rfl ?_
    refine J_if_ne Z.1 86 dX12_sums_69 (by decide) (fun c23 => ?_) (fun c23 => ?_)
    · rw [if_neg c23] at hf
      refine J_lv [2, 0] rfl ?_
      exact pX12_sums_b86_ok Z hK t0  _ _ hf
    · rw [if_pos c23] at hf
      refine J_aload_n Z.1 2 dX12_sums_72 rfl rfl ?_
      refine J_get (v := va_rf (hR h16 this 18)) Z.1 dX12_sums_73 fl_X12_87 t0 rfl ?_
      refine J_tr (fun r24 er24 => ?_)
      replace hf := lt_i hf r24 er24
      refine J_aload_n Z.1 2 dX12_sums_76 rfl rfl ?_
      refine J_get (v := va_rf (hR h16 this 17)) Z.1 dX12_sums_77 fl_X12_84 t0 rfl ?_
      refine J_tr (fun r25 er25 => ?_)
      replace hf := lt_i hf r25 er25
      replace hf := nn_i hf
      obtain ⟨a24, rfl, hf⟩ := hf
      replace hf := tg_i hf
      obtain ⟨t26, hf⟩ := hf
      replace hf := nn_i hf
      obtain ⟨a25, rfl, hf⟩ := hf
      replace hf := bd_i hf
      obtain ⟨x27, q28, hf⟩ := hf
      refine J_callV (ci := 3) (as := [va_rf (some a25)]) (rest := []) (sy := [.int x27]) Z.1 dX12_sums_80 cw_X12_332 (pX4_alike_ok G (dk - 1) (by omega) q28) rfl rfl t26 (zG Z) rfl (by decide) (zF Z (by omega)) (zO Z (by omega) (by decide)) (zM _) Z.2.1 Z.2.1 rfl rfl ?_
      refine J_if_eq Z.1 90 dX12_sums_83 (by decide) (fun c29 => ?_) (fun c29 => ?_)
      · rw [if_pos c29] at hf
        refine J_iconst Z.1 (v := 0) (by decide) dX12_sums_90 ?_
        refine J_lv [2, 0] rfl ?_
        exact pX12_sums_b91_ok Z hK t0  _ _ _ hf
      · rw [if_neg c29] at hf
        refine J_lv [2, 0] rfl ?_
        exact pX12_sums_b86_ok Z hK t0  _ _ hf
  · rw [if_neg c3] at hf
    refine J_aload_n Z.1 1 dX12_sums_10 rfl rfl ?_
    refine J_iload_n Z.1 0 dX12_sums_11 rfl rfl ?_
    replace hf := bd2_i hf
    obtain ⟨x32, h30, q31, hf⟩ := hf
    refine J_callV (ci := 10) (as := [.int x1]) (rest := []) (sy := [.int x32]) Z.1 dX12_sums_12 cw_X12_143 (pX12_refuse_ok G (dk - 1) (by omega) q31) rfl rfl t0 (zG Z) rfl (by decide) (zF Z (by omega)) (zO Z (by omega) (by decide)) (zM _) Z.2.1 Z.2.1 rfl rfl ?_
    cases hf
    exact J_iret Z.1 Z.2.2.2.2.2 dX12_sums_15
theorem dX12_halvingTrouble_0 : decode cX12_halvingTrouble 0 = .ok (.iload_n 1, 1) := by decide +kernel
theorem dX12_halvingTrouble_1 : decode cX12_halvingTrouble 1 = .ok (.ifCond .lt 8, 3) := by decide +kernel
theorem dX12_halvingTrouble_4 : decode cX12_halvingTrouble 4 = .ok (.iload_n 1, 1) := by decide +kernel
theorem dX12_halvingTrouble_5 : decode cX12_halvingTrouble 5 = .ok (.iload_n 0, 1) := by decide +kernel
theorem dX12_halvingTrouble_6 : decode cX12_halvingTrouble 6 = .ok (.if_icmp .lt 5, 3) := by decide +kernel
theorem dX12_halvingTrouble_9 : decode cX12_halvingTrouble 9 = .ok (.iconst 2, 1) := by decide +kernel
theorem dX12_halvingTrouble_10 : decode cX12_halvingTrouble 10 = .ok (.ireturn, 1) := by decide +kernel
theorem dX12_halvingTrouble_11 : decode cX12_halvingTrouble 11 = .ok (.iload_n 0, 1) := by decide +kernel
theorem dX12_halvingTrouble_12 : decode cX12_halvingTrouble 12 = .ok (.iconst 1, 1) := by decide +kernel
theorem dX12_halvingTrouble_13 : decode cX12_halvingTrouble 13 = .ok (.bipush 16, 2) := by decide +kernel
theorem dX12_halvingTrouble_15 : decode cX12_halvingTrouble 15 = .ok (.invokestatic 109, 3) := by decide +kernel
theorem dX12_halvingTrouble_18 : decode cX12_halvingTrouble 18 = .ok (.ifCond .ne 5, 3) := by decide +kernel
theorem dX12_halvingTrouble_21 : decode cX12_halvingTrouble 21 = .ok (.iconst 5, 1) := by decide +kernel
theorem dX12_halvingTrouble_22 : decode cX12_halvingTrouble 22 = .ok (.ireturn, 1) := by decide +kernel
theorem dX12_halvingTrouble_23 : decode cX12_halvingTrouble 23 = .ok (.iload_n 1, 1) := by decide +kernel
theorem dX12_halvingTrouble_24 : decode cX12_halvingTrouble 24 = .ok (.ifCond .ne 8, 3) := by decide +kernel
theorem dX12_halvingTrouble_27 : decode cX12_halvingTrouble 27 = .ok (.bipush 8, 2) := by decide +kernel
theorem dX12_halvingTrouble_29 : decode cX12_halvingTrouble 29 = .ok (.goto 4, 3) := by decide +kernel
theorem dX12_halvingTrouble_32 : decode cX12_halvingTrouble 32 = .ok (.iconst 0, 1) := by decide +kernel
theorem dX12_halvingTrouble_33 : decode cX12_halvingTrouble 33 = .ok (.ireturn, 1) := by decide +kernel
def pX12_halvingTrouble (p0 : Int32) (p1 : Int32) : Int32 := if p1 < 0 then 2 else if p1 < p0 then if (pX12_within p0 1 16) = 0 then 5 else if p1 = 0 then 8 else 0 else 2
set_option maxRecDepth 10000 in
set_option maxHeartbeats 4000000 in
theorem pX12_halvingTrouble_ok (G : Gx) (dk : Nat) (hK : 1 ≤ dk) (g : MT) (h0 : CT) (p0 : Int32) (p1 : Int32) : Ctr G dk yX12_halvingTrouble cX12_halvingTrouble 2 (some .int) [.int p0, .int p1] g h0 (some (.int (pX12_halvingTrouble p0 p1))) g h0 := by
  obtain ⟨r0, hf⟩ : ∃ z, pX12_halvingTrouble p0 p1 = z := ⟨_, rfl⟩
  rw [hf]
  refine Ctr.ofZ (lv := [(0, .int p0), (1, .int p1)]) (by decide +kernel) (by simp [cat_i, cat_l, cat_d, cat_rf]) rfl fun X Z => ?_
  unfold pX12_halvingTrouble at hf
  refine J_iload_n Z.1 1 dX12_halvingTrouble_0 rfl rfl ?_
  refine J_if_lt Z.1 9 dX12_halvingTrouble_1 (by decide) (fun c1 => ?_) (fun c1 => ?_)
  · rw [if_pos c1] at hf
    refine J_iconst Z.1 (v := 2) (by decide) dX12_halvingTrouble_9 ?_
    cases hf
    exact J_iret Z.1 Z.2.2.2.2.2 dX12_halvingTrouble_10
  · rw [if_neg c1] at hf
    refine J_iload_n Z.1 1 dX12_halvingTrouble_4 rfl rfl ?_
    refine J_iload_n Z.1 0 dX12_halvingTrouble_5 rfl rfl ?_
    refine J_icmp_lt Z.1 11 dX12_halvingTrouble_6 (by decide) (fun c2 => ?_) (fun c2 => ?_)
    · rw [if_pos c2] at hf
      refine J_iload_n Z.1 0 dX12_halvingTrouble_11 rfl rfl ?_
      refine J_iconst Z.1 (v := 1) (by decide) dX12_halvingTrouble_12 ?_
      refine J_bipush Z.1 (v := 16) (by decide) dX12_halvingTrouble_13 ?_
      refine J_callS (as := [.int p0, .int 1, .int 16]) (rest := []) (sy := [.int (pX12_within p0 1 16)]) Z.1 dX12_halvingTrouble_15 cw_X12_109 (pX12_within_ok G (dk - 1) (by omega) g h0 p0 1 16) (zG Z) rfl (by decide) (zF Z (by omega)) (zO Z (by omega) (by decide)) (zM _) Z.2.1 Z.2.1 rfl rfl ?_
      refine J_if_ne Z.1 23 dX12_halvingTrouble_18 (by decide) (fun c3 => ?_) (fun c3 => ?_)
      · rw [if_neg c3] at hf
        refine J_iload_n Z.1 1 dX12_halvingTrouble_23 rfl rfl ?_
        refine J_if_ne Z.1 32 dX12_halvingTrouble_24 (by decide) (fun c4 => ?_) (fun c4 => ?_)
        · rw [if_neg c4] at hf
          refine J_iconst Z.1 (v := 0) (by decide) dX12_halvingTrouble_32 ?_
          cases hf
          exact J_iret Z.1 Z.2.2.2.2.2 dX12_halvingTrouble_33
        · rw [if_pos c4] at hf
          refine J_bipush Z.1 (v := 8) (by decide) dX12_halvingTrouble_27 ?_
          refine J_goto Z.1 33 dX12_halvingTrouble_29 (by decide) ?_
          cases hf
          exact J_iret Z.1 Z.2.2.2.2.2 dX12_halvingTrouble_33
      · rw [if_pos c3] at hf
        refine J_iconst Z.1 (v := 5) (by decide) dX12_halvingTrouble_21 ?_
        cases hf
        exact J_iret Z.1 Z.2.2.2.2.2 dX12_halvingTrouble_22
    · rw [if_neg c2] at hf
      refine J_iconst Z.1 (v := 2) (by decide) dX12_halvingTrouble_9 ?_
      cases hf
      exact J_iret Z.1 Z.2.2.2.2.2 dX12_halvingTrouble_10
theorem dX12_roundOf_0 : decode cX12_roundOf 0 = .ok (.iload_n 1, 1) := by decide +kernel
theorem dX12_roundOf_1 : decode cX12_roundOf 1 = .ok (.iload_n 2, 1) := by decide +kernel
theorem dX12_roundOf_2 : decode cX12_roundOf 2 = .ok (.invokestatic 336, 3) := by decide +kernel
theorem dX12_roundOf_5 : decode cX12_roundOf 5 = .ok (.istore_n 3, 1) := by decide +kernel
theorem dX12_roundOf_6 : decode cX12_roundOf 6 = .ok (.iload_n 3, 1) := by decide +kernel
theorem dX12_roundOf_7 : decode cX12_roundOf 7 = .ok (.ifCond .eq 9, 3) := by decide +kernel
theorem dX12_roundOf_10 : decode cX12_roundOf 10 = .ok (.aload_n 0, 1) := by decide +kernel
theorem dX12_roundOf_11 : decode cX12_roundOf 11 = .ok (.iload_n 3, 1) := by decide +kernel
theorem dX12_roundOf_12 : decode cX12_roundOf 12 = .ok (.invokevirtual 143, 3) := by decide +kernel
theorem dX12_roundOf_15 : decode cX12_roundOf 15 = .ok (.ireturn, 1) := by decide +kernel
theorem dX12_roundOf_16 : decode cX12_roundOf 16 = .ok (.iconst 0, 1) := by decide +kernel
theorem dX12_roundOf_17 : decode cX12_roundOf 17 = .ok (.istore 4, 2) := by decide +kernel
theorem dX12_roundOf_19 : decode cX12_roundOf 19 = .ok (.iload_n 1, 1) := by decide +kernel
theorem dX12_roundOf_20 : decode cX12_roundOf 20 = .ok (.iconst 1, 1) := by decide +kernel
theorem dX12_roundOf_21 : decode cX12_roundOf 21 = .ok (.iadd, 1) := by decide +kernel
theorem dX12_roundOf_22 : decode cX12_roundOf 22 = .ok (.iconst 2, 1) := by decide +kernel
theorem dX12_roundOf_23 : decode cX12_roundOf 23 = .ok (.idiv, 1) := by decide +kernel
theorem dX12_roundOf_24 : decode cX12_roundOf 24 = .ok (.istore 5, 2) := by decide +kernel
theorem dX12_roundOf_26 : decode cX12_roundOf 26 = .ok (.iload 5, 2) := by decide +kernel
theorem dX12_roundOf_28 : decode cX12_roundOf 28 = .ok (.iload_n 2, 1) := by decide +kernel
theorem dX12_roundOf_29 : decode cX12_roundOf 29 = .ok (.if_icmp .le 24, 3) := by decide +kernel
theorem dX12_roundOf_32 : decode cX12_roundOf 32 = .ok (.iload 4, 2) := by decide +kernel
theorem dX12_roundOf_34 : decode cX12_roundOf 34 = .ok (.bipush 16, 2) := by decide +kernel
theorem dX12_roundOf_36 : decode cX12_roundOf 36 = .ok (.if_icmp .ge 17, 3) := by decide +kernel
theorem dX12_roundOf_39 : decode cX12_roundOf 39 = .ok (.iload 5, 2) := by decide +kernel
theorem dX12_roundOf_41 : decode cX12_roundOf 41 = .ok (.iconst 1, 1) := by decide +kernel
theorem dX12_roundOf_42 : decode cX12_roundOf 42 = .ok (.iadd, 1) := by decide +kernel
theorem dX12_roundOf_43 : decode cX12_roundOf 43 = .ok (.iconst 2, 1) := by decide +kernel
theorem dX12_roundOf_44 : decode cX12_roundOf 44 = .ok (.idiv, 1) := by decide +kernel
theorem dX12_roundOf_45 : decode cX12_roundOf 45 = .ok (.istore 5, 2) := by decide +kernel
theorem dX12_roundOf_47 : decode cX12_roundOf 47 = .ok (.iinc 4 1, 3) := by decide +kernel
theorem dX12_roundOf_50 : decode cX12_roundOf 50 = .ok (.goto (-24), 3) := by decide +kernel
theorem dX12_roundOf_53 : decode cX12_roundOf 53 = .ok (.aload_n 0, 1) := by decide +kernel
theorem dX12_roundOf_54 : decode cX12_roundOf 54 = .ok (.iload 4, 2) := by decide +kernel
theorem dX12_roundOf_56 : decode cX12_roundOf 56 = .ok (.invokevirtual 105, 3) := by decide +kernel
theorem dX12_roundOf_59 : decode cX12_roundOf 59 = .ok (.ireturn, 1) := by decide +kernel
def pX12_roundOf_b53 (g : MT) (this : Nat) (p1 : Int32) (p2 : Int32) (l4 : Int32) (h : CT) : Option ((Int32) × CT) := bd2 (pX12_answer g h this l4) fun x3 h1 => (some (x3, h1))
set_option maxRecDepth 10000 in
set_option maxHeartbeats 4000000 in
theorem pX12_roundOf_b53_ok {X : Cx} {G : Gx} {dk : Nat} {g : MT} {r0 : Int32} {h0 : CT} {this : Nat} {p1 : Int32} {p2 : Int32} (Z : Zx X G cX12_roundOf RX12 6 dk (some .int) (some (.int r0)) g h0) (hK : 2 ≤ dk) (t0 : gT g this = 11) (l4 : Int32) (h : CT) (hf : pX12_roundOf_b53 g this p1 p2 l4 h = some (r0, h0)) : J X g h 53 [(0, va_rf (some this)), (4, .int l4)] [] := by
  unfold pX12_roundOf_b53 at hf
  refine J_aload_n Z.1 0 dX12_roundOf_53 rfl rfl ?_
  refine J_iload Z.1 1 dX12_roundOf_54 rfl ?_
  replace hf := bd2_i hf
  obtain ⟨x3, h1, q2, hf⟩ := hf
  refine J_callV (ci := 10) (as := [.int l4]) (rest := []) (sy := [.int x3]) Z.1 dX12_roundOf_56 cw_X12_105 (pX12_answer_ok G (dk - 1) (by omega) q2) rfl rfl t0 (zG Z) rfl (by decide) (zF Z (by omega)) (zO Z (by omega) (by decide)) (zM _) Z.2.1 Z.2.1 rfl rfl ?_
  cases hf
  exact J_iret Z.1 Z.2.2.2.2.2 dX12_roundOf_59
def pX12_roundOf_b26 (g : MT) (this : Nat) (p1 : Int32) (p2 : Int32) (k26 : Int32 → Int32 → CT → Option ((Int32) × CT)) (l4 : Int32) (l5 : Int32) (h : CT) : Option ((Int32) × CT) := if l5 ≤ p2 then pX12_roundOf_b53 g this p1 p2  l4 h else if 16 ≤ l4 then pX12_roundOf_b53 g this p1 p2  l4 h else lt ((l5 + 1) / 2) fun x3 => (lt (l4 + 1) fun x4 => (k26 x4 x3 h))
set_option maxRecDepth 10000 in
set_option maxHeartbeats 4000000 in
theorem pX12_roundOf_b26_ok {X : Cx} {G : Gx} {dk : Nat} {g : MT} {r0 : Int32} {h0 : CT} {this : Nat} {p1 : Int32} {p2 : Int32} {k26 : Int32 → Int32 → CT → Option ((Int32) × CT)} (Z : Zx X G cX12_roundOf RX12 6 dk (some .int) (some (.int r0)) g h0) (hK : 2 ≤ dk) (t0 : gT g this = 11) (hk26 : ∀ (l4 : Int32) (l5 : Int32) (h : CT), k26 l4 l5 h = some (r0, h0) → J X g h 26 [(0, va_rf (some this)), (2, .int p2), (4, .int l4), (5, .int l5)] []) (l4 : Int32) (l5 : Int32) (h : CT) (hf : pX12_roundOf_b26 g this p1 p2 k26 l4 l5 h = some (r0, h0)) : J X g h 26 [(0, va_rf (some this)), (2, .int p2), (4, .int l4), (5, .int l5)] [] := by
  unfold pX12_roundOf_b26 at hf
  refine J_iload Z.1 3 dX12_roundOf_26 rfl ?_
  refine J_iload_n Z.1 1 dX12_roundOf_28 rfl rfl ?_
  refine J_icmp_le Z.1 53 dX12_roundOf_29 (by decide) (fun c1 => ?_) (fun c1 => ?_)
  · rw [if_pos c1] at hf
    refine J_lv [0, 2] rfl ?_
    exact pX12_roundOf_b53_ok Z hK t0  _ _ hf
  · rw [if_neg c1] at hf
    refine J_iload Z.1 2 dX12_roundOf_32 rfl ?_
    refine J_bipush Z.1 (v := 16) (by decide) dX12_roundOf_34 ?_
    refine J_icmp_ge Z.1 53 dX12_roundOf_36 (by decide) (fun c2 => ?_) (fun c2 => ?_)
    · rw [if_pos c2] at hf
      refine J_lv [0, 2] rfl ?_
      exact pX12_roundOf_b53_ok Z hK t0  _ _ hf
    · rw [if_neg c2] at hf
      refine J_iload Z.1 3 dX12_roundOf_39 rfl ?_
      refine J_iconst Z.1 (v := 1) (by decide) dX12_roundOf_41 ?_
      refine J_iadd Z.1 dX12_roundOf_42 ?_
      refine J_iconst Z.1 (v := 2) (by decide) dX12_roundOf_43 ?_
      refine J_idiv Z.1 (by decide) dX12_roundOf_44 ?_
      refine J_ti (fun x3 ex3 => ?_)
      replace hf := lt_i hf x3 ex3
      refine J_istore Z.1 (lv2 := [(5, .int x3), (0, va_rf (some this)), (2, .int p2), (4, .int l4)]) dX12_roundOf_45 (zL Z (by decide)) rfl ?_
      refine J_iinc Z.1 (v := 1) (lv2 := [(4, .int (l4 + 1)), (5, .int x3), (0, va_rf (some this)), (2, .int p2)]) 3 dX12_roundOf_47 rfl (by decide) (zL Z (by decide)) rfl ?_
      obtain ⟨x4, ex4⟩ : ∃ z, z = (l4 + 1) := ⟨_, rfl⟩
      replace hf := lt_i hf x4 ex4
      rw [← ex4]
      refine J_goto Z.1 26 dX12_roundOf_50 (by decide) ?_
      refine J_lv [2, 3, 0, 1] rfl ?_
      exact hk26 _ _ _ hf
def pX12_roundOf_l26 (g : MT) (this : Nat) (p1 : Int32) (p2 : Int32) : Nat → Int32 → Int32 → CT → Option ((Int32) × CT)
  | 0, _, _, _ => none
  | n + 1, l4, l5, h => pX12_roundOf_b26 g this p1 p2 (pX12_roundOf_l26 g this p1 p2 n) l4 l5 h
theorem pX12_roundOf_l26_ok {X : Cx} {G : Gx} {dk : Nat} {g : MT} {r0 : Int32} {h0 : CT} {this : Nat} {p1 : Int32} {p2 : Int32} (Z : Zx X G cX12_roundOf RX12 6 dk (some .int) (some (.int r0)) g h0) (hK : 2 ≤ dk) (t0 : gT g this = 11) : ∀ (n : Nat) (l4 : Int32) (l5 : Int32) (h : CT), pX12_roundOf_l26 g this p1 p2 n l4 l5 h = some (r0, h0) → J X g h 26 [(0, va_rf (some this)), (2, .int p2), (4, .int l4), (5, .int l5)] [] := by
  intro n
  induction n with
  | zero => intro l4 l5 h hf; cases hf
  | succ n ih => intro l4 l5 h hf; exact pX12_roundOf_b26_ok Z hK t0 ih l4 l5 h hf
def pX12_roundOf (g : MT) (h : CT) (this : Nat) (p1 : Int32) (p2 : Int32) : Option ((Int32) × CT) := tg g this 11 (lt (pX12_halvingTrouble p1 p2) fun x1 => (if x1 = 0 then lt ((p1 + 1) / 2) fun x3 => (pX12_roundOf_l26 g this p1 p2  FUEL 0 x3 h) else bd2 (pX12_refuse g h this x1) fun x6 h4 => (some (x6, h4))))
set_option maxRecDepth 10000 in
set_option maxHeartbeats 4000000 in
theorem pX12_roundOf_ok (G : Gx) (dk : Nat) (hK : 2 ≤ dk) {g : MT} {h h0 : CT} {this : Nat} {p1 : Int32} {p2 : Int32} {r0 : Int32} (hf : pX12_roundOf g h this p1 p2 = some (r0, h0)) : Ctr G dk yX12_roundOf cX12_roundOf 6 (some .int) [va_rf (some this), .int p1, .int p2] g h (some (.int r0)) g h0 := by
  refine Ctr.ofZ (lv := [(0, va_rf (some this)), (1, .int p1), (2, .int p2)]) (by decide +kernel) (by simp [cat_i, cat_l, cat_d, cat_rf]) rfl fun X Z => ?_
  unfold pX12_roundOf at hf
  replace hf := tg_i hf
  obtain ⟨t0, hf⟩ := hf
  refine J_iload_n Z.1 1 dX12_roundOf_0 rfl rfl ?_
  refine J_iload_n Z.1 2 dX12_roundOf_1 rfl rfl ?_
  refine J_callS (as := [.int p1, .int p2]) (rest := []) (sy := [.int (pX12_halvingTrouble p1 p2)]) Z.1 dX12_roundOf_2 cw_X12_336 (pX12_halvingTrouble_ok G (dk - 1) (by omega) g h p1 p2) (zG Z) rfl (by decide) (zF Z (by omega)) (zO Z (by omega) (by decide)) (zM _) Z.2.1 Z.2.1 rfl rfl ?_
  refine J_ti (fun x1 ex1 => ?_)
  replace hf := lt_i hf x1 ex1
  refine J_istore_n Z.1 (lv2 := [(3, .int x1), (0, va_rf (some this)), (1, .int p1), (2, .int p2)]) dX12_roundOf_5 rfl (zL Z (by decide)) rfl ?_
  refine J_iload_n Z.1 0 dX12_roundOf_6 rfl rfl ?_
  refine J_if_eq Z.1 16 dX12_roundOf_7 (by decide) (fun c2 => ?_) (fun c2 => ?_)
  · rw [if_pos c2] at hf
    refine J_iconst Z.1 (v := 0) (by decide) dX12_roundOf_16 ?_
    refine J_istore Z.1 (lv2 := [(4, .int 0), (3, .int x1), (0, va_rf (some this)), (1, .int p1), (2, .int p2)]) dX12_roundOf_17 (zL Z (by decide)) rfl ?_
    refine J_iload_n Z.1 3 dX12_roundOf_19 rfl rfl ?_
    refine J_iconst Z.1 (v := 1) (by decide) dX12_roundOf_20 ?_
    refine J_iadd Z.1 dX12_roundOf_21 ?_
    refine J_iconst Z.1 (v := 2) (by decide) dX12_roundOf_22 ?_
    refine J_idiv Z.1 (by decide) dX12_roundOf_23 ?_
    refine J_ti (fun x3 ex3 => ?_)
    replace hf := lt_i hf x3 ex3
    refine J_istore Z.1 (lv2 := [(5, .int x3), (4, .int 0), (3, .int x1), (0, va_rf (some this)), (1, .int p1), (2, .int p2)]) dX12_roundOf_24 (zL Z (by decide)) rfl ?_
    refine J_lv [3, 5, 1, 0] rfl ?_
    exact pX12_roundOf_l26_ok Z hK t0  FUEL _ _ _ hf
  · rw [if_neg c2] at hf
    refine J_aload_n Z.1 1 dX12_roundOf_10 rfl rfl ?_
    refine J_iload_n Z.1 0 dX12_roundOf_11 rfl rfl ?_
    replace hf := bd2_i hf
    obtain ⟨x6, h4, q5, hf⟩ := hf
    refine J_callV (ci := 10) (as := [.int x1]) (rest := []) (sy := [.int x6]) Z.1 dX12_roundOf_12 cw_X12_143 (pX12_refuse_ok G (dk - 1) (by omega) q5) rfl rfl t0 (zG Z) rfl (by decide) (zF Z (by omega)) (zO Z (by omega) (by decide)) (zM _) Z.2.1 Z.2.1 rfl rfl ?_
    cases hf
    exact J_iret Z.1 Z.2.2.2.2.2 dX12_roundOf_15
