theorem dJ9_max_7cf53_0 : decode cJ9_max_7cf53 0 = .ok (.iload_n 0, 1) := by decide +kernel
theorem dJ9_max_7cf53_1 : decode cJ9_max_7cf53 1 = .ok (.iload_n 1, 1) := by decide +kernel
theorem dJ9_max_7cf53_2 : decode cJ9_max_7cf53 2 = .ok (.if_icmp .lt 7, 3) := by decide +kernel
theorem dJ9_max_7cf53_5 : decode cJ9_max_7cf53 5 = .ok (.iload_n 0, 1) := by decide +kernel
theorem dJ9_max_7cf53_6 : decode cJ9_max_7cf53 6 = .ok (.goto 4, 3) := by decide +kernel
theorem dJ9_max_7cf53_9 : decode cJ9_max_7cf53 9 = .ok (.iload_n 1, 1) := by decide +kernel
theorem dJ9_max_7cf53_10 : decode cJ9_max_7cf53 10 = .ok (.ireturn, 1) := by decide +kernel
def pJ9_max_7cf53 (p0 : Int32) (p1 : Int32) : Int32 := if p0 < p1 then p1 else p0
set_option maxRecDepth 10000 in
set_option maxHeartbeats 4000000 in
theorem pJ9_max_7cf53_ok (G : Gx) (dk : Nat) (hK : 0 ≤ dk) (g : MT) (h0 : CT) (p0 : Int32) (p1 : Int32) : Ctr G dk yJ9_max_7cf53 cJ9_max_7cf53 2 (some .int) [.int p0, .int p1] g h0 (some (.int (pJ9_max_7cf53 p0 p1))) g h0 := by
  obtain ⟨r0, hf⟩ : ∃ z, pJ9_max_7cf53 p0 p1 = z := ⟨_, rfl⟩
  rw [hf]
  refine Ctr.ofZ (lv := [(0, .int p0), (1, .int p1)]) (by decide) (by simp [cat_i, cat_l, cat_d, cat_rf]) rfl fun X Z => ?_
  unfold pJ9_max_7cf53 at hf
  refine J_iload_n Z.1 0 dJ9_max_7cf53_0 rfl rfl ?_
  refine J_iload_n Z.1 1 dJ9_max_7cf53_1 rfl rfl ?_
  refine J_icmp_lt Z.1 9 dJ9_max_7cf53_2 (by decide) (fun c1 => ?_) (fun c1 => ?_)
  · rw [if_pos c1] at hf
    refine J_iload_n Z.1 1 dJ9_max_7cf53_9 rfl rfl ?_
    cases hf
    exact J_iret Z.1 Z.2.2.2.2.2 dJ9_max_7cf53_10
  · rw [if_neg c1] at hf
    refine J_iload_n Z.1 0 dJ9_max_7cf53_5 rfl rfl ?_
    refine J_goto Z.1 10 dJ9_max_7cf53_6 (by decide) ?_
    cases hf
    exact J_iret Z.1 Z.2.2.2.2.2 dJ9_max_7cf53_10
theorem dX13_refuse_0 : decode cX13_refuse 0 = .ok (.aload_n 0, 1) := by decide +kernel
theorem dX13_refuse_1 : decode cX13_refuse 1 = .ok (.iload_n 1, 1) := by decide +kernel
theorem dX13_refuse_2 : decode cX13_refuse 2 = .ok (.putfield 74, 3) := by decide +kernel
theorem dX13_refuse_5 : decode cX13_refuse 5 = .ok (.iconst (-1), 1) := by decide +kernel
theorem dX13_refuse_6 : decode cX13_refuse 6 = .ok (.ireturn, 1) := by decide +kernel
def pX13_refuse (g : MT) (h : CT) (this : Nat) (p1 : Int32) : Option ((Int32) × CT) := tg g this 12 (lt (sI h this 0 p1) fun h1 => (some ((-1), h1)))
set_option maxRecDepth 10000 in
set_option maxHeartbeats 4000000 in
theorem pX13_refuse_ok (G : Gx) (dk : Nat) (hK : 0 ≤ dk) {g : MT} {h h0 : CT} {this : Nat} {p1 : Int32} {r0 : Int32} (hf : pX13_refuse g h this p1 = some (r0, h0)) : Ctr G dk yX13_refuse cX13_refuse 2 (some .int) [va_rf (some this), .int p1] g h (some (.int r0)) g h0 := by
  refine Ctr.ofZ (lv := [(0, va_rf (some this)), (1, .int p1)]) (by decide) (by simp [cat_i, cat_l, cat_d, cat_rf]) rfl fun X Z => ?_
  unfold pX13_refuse at hf
  obtain ⟨t0, hf⟩ := tg_i hf
  refine J_aload_n Z.1 0 dX13_refuse_0 rfl rfl ?_
  refine J_iload_n Z.1 1 dX13_refuse_1 rfl rfl ?_
  refine J_putI Z.1 dX13_refuse_2 fl_X13_74 (fun q => by cases q) t0 rfl rfl (congrArg Value.int (hI_s _ _ _ _)) ?_
  refine J_th (fun h1 eh1 => ?_)
  replace hf := lt_i hf h1 eh1
  refine J_iconst Z.1 (v := (-1)) (by decide) dX13_refuse_5 ?_
  cases hf
  exact J_iret Z.1 Z.2.2.2.2.2 dX13_refuse_6
theorem dX13_no_0 : decode cX13_no 0 = .ok (.aload_n 0, 1) := by decide +kernel
theorem dX13_no_1 : decode cX13_no 1 = .ok (.iload_n 1, 1) := by decide +kernel
theorem dX13_no_2 : decode cX13_no 2 = .ok (.putfield 74, 3) := by decide +kernel
theorem dX13_no_5 : decode cX13_no 5 = .ok (.iconst 0, 1) := by decide +kernel
theorem dX13_no_6 : decode cX13_no 6 = .ok (.ireturn, 1) := by decide +kernel
def pX13_no (g : MT) (h : CT) (this : Nat) (p1 : Int32) : Option ((Int32) × CT) := tg g this 12 (lt (sI h this 0 p1) fun h1 => (some (0, h1)))
set_option maxRecDepth 10000 in
set_option maxHeartbeats 4000000 in
theorem pX13_no_ok (G : Gx) (dk : Nat) (hK : 0 ≤ dk) {g : MT} {h h0 : CT} {this : Nat} {p1 : Int32} {r0 : Int32} (hf : pX13_no g h this p1 = some (r0, h0)) : Ctr G dk yX13_no cX13_no 2 (some .boolean) [va_rf (some this), .int p1] g h (some (.int r0)) g h0 := by
  refine Ctr.ofZ (lv := [(0, va_rf (some this)), (1, .int p1)]) (by decide) (by simp [cat_i, cat_l, cat_d, cat_rf]) rfl fun X Z => ?_
  unfold pX13_no at hf
  obtain ⟨t0, hf⟩ := tg_i hf
  refine J_aload_n Z.1 0 dX13_no_0 rfl rfl ?_
  refine J_iload_n Z.1 1 dX13_no_1 rfl rfl ?_
  refine J_putI Z.1 dX13_no_2 fl_X13_74 (fun q => by cases q) t0 rfl rfl (congrArg Value.int (hI_s _ _ _ _)) ?_
  refine J_th (fun h1 eh1 => ?_)
  replace hf := lt_i hf h1 eh1
  refine J_iconst Z.1 (v := 0) (by decide) dX13_no_5 ?_
  cases hf
  exact J_zret Z.1 Z.2.2.2.2.2 (z_n (Or.inl rfl)) dX13_no_6
theorem dX13_isIn_0 : decode cX13_isIn 0 = .ok (.lload_n 0, 1) := by decide +kernel
theorem dX13_isIn_1 : decode cX13_isIn 1 = .ok (.lload_n 2, 1) := by decide +kernel
theorem dX13_isIn_2 : decode cX13_isIn 2 = .ok (.lcmp, 1) := by decide +kernel
theorem dX13_isIn_3 : decode cX13_isIn 3 = .ok (.ifCond .lt 14, 3) := by decide +kernel
theorem dX13_isIn_6 : decode cX13_isIn 6 = .ok (.lload_n 0, 1) := by decide +kernel
theorem dX13_isIn_7 : decode cX13_isIn 7 = .ok (.lload 4, 2) := by decide +kernel
theorem dX13_isIn_9 : decode cX13_isIn 9 = .ok (.lcmp, 1) := by decide +kernel
theorem dX13_isIn_10 : decode cX13_isIn 10 = .ok (.ifCond .gt 7, 3) := by decide +kernel
theorem dX13_isIn_13 : decode cX13_isIn 13 = .ok (.iconst 1, 1) := by decide +kernel
theorem dX13_isIn_14 : decode cX13_isIn 14 = .ok (.goto 4, 3) := by decide +kernel
theorem dX13_isIn_17 : decode cX13_isIn 17 = .ok (.iconst 0, 1) := by decide +kernel
theorem dX13_isIn_18 : decode cX13_isIn 18 = .ok (.ireturn, 1) := by decide +kernel
def pX13_isIn (p0 : Int64) (p2 : Int64) (p4 : Int64) : Int32 := if (lg_cmp p0 p2) < 0 then 0 else if 0 < (lg_cmp p0 p4) then 0 else 1
set_option maxRecDepth 10000 in
set_option maxHeartbeats 4000000 in
theorem pX13_isIn_ok (G : Gx) (dk : Nat) (hK : 0 ≤ dk) (g : MT) (h0 : CT) (p0 : Int64) (p2 : Int64) (p4 : Int64) : Ctr G dk yX13_isIn cX13_isIn 6 (some .boolean) [.long p0, .long p2, .long p4] g h0 (some (.int (pX13_isIn p0 p2 p4))) g h0 := by
  obtain ⟨r0, hf⟩ : ∃ z, pX13_isIn p0 p2 p4 = z := ⟨_, rfl⟩
  rw [hf]
  refine Ctr.ofZ (lv := [(0, .long p0), (2, .long p2), (4, .long p4)]) (by decide) (by simp [cat_i, cat_l, cat_d, cat_rf]) rfl fun X Z => ?_
  unfold pX13_isIn at hf
  refine J_lload_n Z.1 0 dX13_isIn_0 rfl rfl ?_
  refine J_lload_n Z.1 1 dX13_isIn_1 rfl rfl ?_
  refine J_lcmp Z.1 dX13_isIn_2 ?_
  refine J_if_lt Z.1 17 dX13_isIn_3 (by decide) (fun c1 => ?_) (fun c1 => ?_)
  · rw [if_pos c1] at hf
    refine J_iconst Z.1 (v := 0) (by decide) dX13_isIn_17 ?_
    cases hf
    exact J_zret Z.1 Z.2.2.2.2.2 (z_n (Or.inl rfl)) dX13_isIn_18
  · rw [if_neg c1] at hf
    refine J_lload_n Z.1 0 dX13_isIn_6 rfl rfl ?_
    refine J_lload Z.1 2 dX13_isIn_7 rfl ?_
    refine J_lcmp Z.1 dX13_isIn_9 ?_
    refine J_if_gt Z.1 17 dX13_isIn_10 (by decide) (fun c2 => ?_) (fun c2 => ?_)
    · rw [if_pos c2] at hf
      refine J_iconst Z.1 (v := 0) (by decide) dX13_isIn_17 ?_
      cases hf
      exact J_zret Z.1 Z.2.2.2.2.2 (z_n (Or.inl rfl)) dX13_isIn_18
    · rw [if_neg c2] at hf
      refine J_iconst Z.1 (v := 1) (by decide) dX13_isIn_13 ?_
      refine J_goto Z.1 18 dX13_isIn_14 (by decide) ?_
      cases hf
      exact J_zret Z.1 Z.2.2.2.2.2 (z_n (Or.inr rfl)) dX13_isIn_18
theorem pX13_isIn_z (p0 : Int64) (p2 : Int64) (p4 : Int64) : is01 (pX13_isIn p0 p2 p4) := by
  unfold pX13_isIn
  (repeat' split) <;> first | exact Or.inl rfl | exact Or.inr rfl | apply_assumption
theorem dX13_trims_0 : decode cX13_trims 0 = .ok (.iload_n 0, 1) := by decide +kernel
theorem dX13_trims_1 : decode cX13_trims 1 = .ok (.ifCond .ne 10, 3) := by decide +kernel
theorem dX13_trims_4 : decode cX13_trims 4 = .ok (.lload_n 1, 1) := by decide +kernel
theorem dX13_trims_5 : decode cX13_trims 5 = .ok (.l2i, 1) := by decide +kernel
theorem dX13_trims_6 : decode cX13_trims 6 = .ok (.i2b, 1) := by decide +kernel
theorem dX13_trims_7 : decode cX13_trims 7 = .ok (.i2l, 1) := by decide +kernel
theorem dX13_trims_8 : decode cX13_trims 8 = .ok (.goto 27, 3) := by decide +kernel
theorem dX13_trims_11 : decode cX13_trims 11 = .ok (.iload_n 0, 1) := by decide +kernel
theorem dX13_trims_12 : decode cX13_trims 12 = .ok (.iconst 1, 1) := by decide +kernel
theorem dX13_trims_13 : decode cX13_trims 13 = .ok (.if_icmp .ne 10, 3) := by decide +kernel
theorem dX13_trims_16 : decode cX13_trims 16 = .ok (.lload_n 1, 1) := by decide +kernel
theorem dX13_trims_17 : decode cX13_trims 17 = .ok (.l2i, 1) := by decide +kernel
theorem dX13_trims_18 : decode cX13_trims 18 = .ok (.i2s, 1) := by decide +kernel
theorem dX13_trims_19 : decode cX13_trims 19 = .ok (.i2l, 1) := by decide +kernel
theorem dX13_trims_20 : decode cX13_trims 20 = .ok (.goto 15, 3) := by decide +kernel
theorem dX13_trims_23 : decode cX13_trims 23 = .ok (.iload_n 0, 1) := by decide +kernel
theorem dX13_trims_24 : decode cX13_trims 24 = .ok (.iconst 2, 1) := by decide +kernel
theorem dX13_trims_25 : decode cX13_trims 25 = .ok (.if_icmp .ne 9, 3) := by decide +kernel
theorem dX13_trims_28 : decode cX13_trims 28 = .ok (.lload_n 1, 1) := by decide +kernel
theorem dX13_trims_29 : decode cX13_trims 29 = .ok (.l2i, 1) := by decide +kernel
theorem dX13_trims_30 : decode cX13_trims 30 = .ok (.i2l, 1) := by decide +kernel
theorem dX13_trims_31 : decode cX13_trims 31 = .ok (.goto 4, 3) := by decide +kernel
theorem dX13_trims_34 : decode cX13_trims 34 = .ok (.lload_n 1, 1) := by decide +kernel
theorem dX13_trims_35 : decode cX13_trims 35 = .ok (.lreturn, 1) := by decide +kernel
def pX13_trims (p0 : Int32) (p1 : Int64) : Int64 := if p0 = 0 then (Int32.toInt64 (Int8.toInt32 (Int32.toInt8 (Int64.toInt32 p1)))) else if p0 = 1 then (Int32.toInt64 (Int16.toInt32 (Int32.toInt16 (Int64.toInt32 p1)))) else if p0 = 2 then (Int32.toInt64 (Int64.toInt32 p1)) else p1
set_option maxRecDepth 10000 in
set_option maxHeartbeats 4000000 in
theorem pX13_trims_ok (G : Gx) (dk : Nat) (hK : 0 ≤ dk) (g : MT) (h0 : CT) (p0 : Int32) (p1 : Int64) : Ctr G dk yX13_trims cX13_trims 3 (some .long) [.int p0, .long p1] g h0 (some (.long (pX13_trims p0 p1))) g h0 := by
  obtain ⟨r0, hf⟩ : ∃ z, pX13_trims p0 p1 = z := ⟨_, rfl⟩
  rw [hf]
  refine Ctr.ofZ (lv := [(0, .int p0), (1, .long p1)]) (by decide) (by simp [cat_i, cat_l, cat_d, cat_rf]) rfl fun X Z => ?_
  unfold pX13_trims at hf
  refine J_iload_n Z.1 0 dX13_trims_0 rfl rfl ?_
  refine J_if_ne Z.1 11 dX13_trims_1 (by decide) (fun c1 => ?_) (fun c1 => ?_)
  · rw [if_neg c1] at hf
    refine J_iload_n Z.1 0 dX13_trims_11 rfl rfl ?_
    refine J_iconst Z.1 (v := 1) (by decide) dX13_trims_12 ?_
    refine J_icmp_ne Z.1 23 dX13_trims_13 (by decide) (fun c2 => ?_) (fun c2 => ?_)
    · rw [if_neg c2] at hf
      refine J_iload_n Z.1 0 dX13_trims_23 rfl rfl ?_
      refine J_iconst Z.1 (v := 2) (by decide) dX13_trims_24 ?_
      refine J_icmp_ne Z.1 34 dX13_trims_25 (by decide) (fun c3 => ?_) (fun c3 => ?_)
      · rw [if_neg c3] at hf
        refine J_lload_n Z.1 1 dX13_trims_34 rfl rfl ?_
        cases hf
        exact J_lret Z.1 Z.2.2.2.2.2 dX13_trims_35
      · rw [if_pos c3] at hf
        refine J_lload_n Z.1 1 dX13_trims_28 rfl rfl ?_
        refine J_l2i Z.1 dX13_trims_29 ?_
        refine J_i2l Z.1 dX13_trims_30 ?_
        refine J_goto Z.1 35 dX13_trims_31 (by decide) ?_
        cases hf
        exact J_lret Z.1 Z.2.2.2.2.2 dX13_trims_35
    · rw [if_pos c2] at hf
      refine J_lload_n Z.1 1 dX13_trims_16 rfl rfl ?_
      refine J_l2i Z.1 dX13_trims_17 ?_
      refine J_i2s Z.1 dX13_trims_18 ?_
      refine J_i2l Z.1 dX13_trims_19 ?_
      refine J_goto Z.1 35 dX13_trims_20 (by decide) ?_
      cases hf
      exact J_lret Z.1 Z.2.2.2.2.2 dX13_trims_35
  · rw [if_pos c1] at hf
    refine J_lload_n Z.1 1 dX13_trims_4 rfl rfl ?_
    refine J_l2i Z.1 dX13_trims_5 ?_
    refine J_i2b Z.1 dX13_trims_6 ?_
    refine J_i2l Z.1 dX13_trims_7 ?_
    refine J_goto Z.1 35 dX13_trims_8 (by decide) ?_
    cases hf
    exact J_lret Z.1 Z.2.2.2.2.2 dX13_trims_35
theorem dX13_tray_0 : decode cX13_tray 0 = .ok (.aload_n 0, 1) := by decide +kernel
theorem dX13_tray_1 : decode cX13_tray 1 = .ok (.iconst 0, 1) := by decide +kernel
theorem dX13_tray_2 : decode cX13_tray 2 = .ok (.putfield 71, 3) := by decide +kernel
theorem dX13_tray_5 : decode cX13_tray 5 = .ok (.aload_n 0, 1) := by decide +kernel
theorem dX13_tray_6 : decode cX13_tray 6 = .ok (.iconst 0, 1) := by decide +kernel
theorem dX13_tray_7 : decode cX13_tray 7 = .ok (.putfield 74, 3) := by decide +kernel
theorem dX13_tray_10 : decode cX13_tray 10 = .ok (.iload_n 1, 1) := by decide +kernel
theorem dX13_tray_11 : decode cX13_tray 11 = .ok (.ifCond .lt 17, 3) := by decide +kernel
theorem dX13_tray_14 : decode cX13_tray 14 = .ok (.iload_n 1, 1) := by decide +kernel
theorem dX13_tray_15 : decode cX13_tray 15 = .ok (.iconst 4, 1) := by decide +kernel
theorem dX13_tray_16 : decode cX13_tray 16 = .ok (.if_icmp .ge 12, 3) := by decide +kernel
theorem dX13_tray_19 : decode cX13_tray 19 = .ok (.iload_n 2, 1) := by decide +kernel
theorem dX13_tray_20 : decode cX13_tray 20 = .ok (.ifCond .lt 8, 3) := by decide +kernel
theorem dX13_tray_23 : decode cX13_tray 23 = .ok (.iload_n 2, 1) := by decide +kernel
theorem dX13_tray_24 : decode cX13_tray 24 = .ok (.iconst 3, 1) := by decide +kernel
theorem dX13_tray_25 : decode cX13_tray 25 = .ok (.if_icmp .le 9, 3) := by decide +kernel
theorem dX13_tray_28 : decode cX13_tray 28 = .ok (.aload_n 0, 1) := by decide +kernel
theorem dX13_tray_29 : decode cX13_tray 29 = .ok (.iconst 1, 1) := by decide +kernel
theorem dX13_tray_30 : decode cX13_tray 30 = .ok (.invokevirtual 84, 3) := by decide +kernel
theorem dX13_tray_33 : decode cX13_tray 33 = .ok (.ireturn, 1) := by decide +kernel
theorem dX13_tray_34 : decode cX13_tray 34 = .ok (.iload_n 3, 1) := by decide +kernel
theorem dX13_tray_35 : decode cX13_tray 35 = .ok (.bipush 60, 2) := by decide +kernel
theorem dX13_tray_37 : decode cX13_tray 37 = .ok (.if_icmp .le 9, 3) := by decide +kernel
theorem dX13_tray_40 : decode cX13_tray 40 = .ok (.aload_n 0, 1) := by decide +kernel
theorem dX13_tray_41 : decode cX13_tray 41 = .ok (.iconst 5, 1) := by decide +kernel
theorem dX13_tray_42 : decode cX13_tray 42 = .ok (.invokevirtual 84, 3) := by decide +kernel
theorem dX13_tray_45 : decode cX13_tray 45 = .ok (.ireturn, 1) := by decide +kernel
theorem dX13_tray_46 : decode cX13_tray 46 = .ok (.iload_n 3, 1) := by decide +kernel
theorem dX13_tray_47 : decode cX13_tray 47 = .ok (.ifCond .ge 10, 3) := by decide +kernel
theorem dX13_tray_50 : decode cX13_tray 50 = .ok (.aload_n 0, 1) := by decide +kernel
theorem dX13_tray_51 : decode cX13_tray 51 = .ok (.bipush 6, 2) := by decide +kernel
theorem dX13_tray_53 : decode cX13_tray 53 = .ok (.invokevirtual 84, 3) := by decide +kernel
theorem dX13_tray_56 : decode cX13_tray 56 = .ok (.ireturn, 1) := by decide +kernel
theorem dX13_tray_57 : decode cX13_tray 57 = .ok (.aload_n 0, 1) := by decide +kernel
theorem dX13_tray_58 : decode cX13_tray 58 = .ok (.getfield 7, 3) := by decide +kernel
theorem dX13_tray_61 : decode cX13_tray 61 = .ok (.iload_n 1, 1) := by decide +kernel
theorem dX13_tray_62 : decode cX13_tray 62 = .ok (.iload_n 2, 1) := by decide +kernel
theorem dX13_tray_63 : decode cX13_tray 63 = .ok (.iastore, 1) := by decide +kernel
theorem dX13_tray_64 : decode cX13_tray 64 = .ok (.aload_n 0, 1) := by decide +kernel
theorem dX13_tray_65 : decode cX13_tray 65 = .ok (.getfield 13, 3) := by decide +kernel
theorem dX13_tray_68 : decode cX13_tray 68 = .ok (.iload_n 1, 1) := by decide +kernel
theorem dX13_tray_69 : decode cX13_tray 69 = .ok (.iload_n 3, 1) := by decide +kernel
theorem dX13_tray_70 : decode cX13_tray 70 = .ok (.iastore, 1) := by decide +kernel
theorem dX13_tray_71 : decode cX13_tray 71 = .ok (.iconst 0, 1) := by decide +kernel
theorem dX13_tray_72 : decode cX13_tray 72 = .ok (.istore 4, 2) := by decide +kernel
theorem dX13_tray_74 : decode cX13_tray 74 = .ok (.iload 4, 2) := by decide +kernel
theorem dX13_tray_76 : decode cX13_tray 76 = .ok (.iload_n 3, 1) := by decide +kernel
theorem dX13_tray_77 : decode cX13_tray 77 = .ok (.if_icmp .ge 22, 3) := by decide +kernel
theorem dX13_tray_80 : decode cX13_tray 80 = .ok (.aload_n 0, 1) := by decide +kernel
theorem dX13_tray_81 : decode cX13_tray 81 = .ok (.getfield 16, 3) := by decide +kernel
theorem dX13_tray_84 : decode cX13_tray 84 = .ok (.bipush 60, 2) := by decide +kernel
theorem dX13_tray_86 : decode cX13_tray 86 = .ok (.iload_n 1, 1) := by decide +kernel
theorem dX13_tray_87 : decode cX13_tray 87 = .ok (.imul, 1) := by decide +kernel
theorem dX13_tray_88 : decode cX13_tray 88 = .ok (.iload 4, 2) := by decide +kernel
theorem dX13_tray_90 : decode cX13_tray 90 = .ok (.iadd, 1) := by decide +kernel
theorem dX13_tray_91 : decode cX13_tray 91 = .ok (.lconst 0, 1) := by decide +kernel
theorem dX13_tray_92 : decode cX13_tray 92 = .ok (.lastore, 1) := by decide +kernel
theorem dX13_tray_93 : decode cX13_tray 93 = .ok (.iinc 4 1, 3) := by decide +kernel
theorem dX13_tray_96 : decode cX13_tray 96 = .ok (.goto (-22), 3) := by decide +kernel
theorem dX13_tray_99 : decode cX13_tray 99 = .ok (.iconst 1, 1) := by decide +kernel
theorem dX13_tray_100 : decode cX13_tray 100 = .ok (.ireturn, 1) := by decide +kernel
def pX13_tray_b28 (g : MT) (this : Nat) (p1 : Int32) (p2 : Int32) (p3 : Int32) (h : CT) : Option ((Int32) × CT) := bd2 (pX13_no g h this 1) fun x3 h1 => (bz x3 (some (x3, h1)))
set_option maxRecDepth 10000 in
set_option maxHeartbeats 4000000 in
theorem pX13_tray_b28_ok {X : Cx} {G : Gx} {dk : Nat} {g : MT} {r0 : Int32} {h0 : CT} {this : Nat} {p1 : Int32} {p2 : Int32} {p3 : Int32} (Z : Zx X G cX13_tray RX13 5 dk (some .boolean) (some (.int r0)) g h0) (hK : 1 ≤ dk) (t0 : gT g this = 12) (h : CT) (hf : pX13_tray_b28 g this p1 p2 p3 h = some (r0, h0)) : J X g h 28 [(0, va_rf (some this))] [] := by
  unfold pX13_tray_b28 at hf
  refine J_aload_n Z.1 0 dX13_tray_28 rfl rfl ?_
  refine J_iconst Z.1 (v := 1) (by decide) dX13_tray_29 ?_
  obtain ⟨x3, h1, q2, hf⟩ := bd2_i hf
  refine J_callV (ci := 11) (as := [.int 1]) (rest := []) (sy := [.int x3]) Z.1 dX13_tray_30 cw_X13_84 (pX13_no_ok G (dk - 1) (by omega) q2) rfl rfl t0 (zG Z) rfl (by decide) (zF Z (by omega)) (zO Z (by omega) (by decide)) (zM g) Z.2.1 Z.2.1 rfl rfl ?_
  obtain ⟨z4, hf⟩ := bz_i hf
  cases hf
  exact J_zret Z.1 Z.2.2.2.2.2 (z_n z4) dX13_tray_33
def pX13_tray_b74 (g : MT) (this : Nat) (p1 : Int32) (p2 : Int32) (p3 : Int32) (k74 : Int32 → CT → Option ((Int32) × CT)) (l4 : Int32) (h : CT) : Option ((Int32) × CT) := if p3 ≤ l4 then some (1, h) else lt (hR h this 6) fun r2 => (nn r2 fun a2 => (tg g a2 21 (ix (gL g a2) ((60 * p1) + l4) (lt (sL h a2 ((60 * p1) + l4).toNatClampNeg 0) fun h5 => (lt (l4 + 1) fun x6 => (k74 x6 h5))))))
set_option maxRecDepth 10000 in
set_option maxHeartbeats 4000000 in
theorem pX13_tray_b74_ok {X : Cx} {G : Gx} {dk : Nat} {g : MT} {r0 : Int32} {h0 : CT} {this : Nat} {p1 : Int32} {p2 : Int32} {p3 : Int32} {k74 : Int32 → CT → Option ((Int32) × CT)} (Z : Zx X G cX13_tray RX13 5 dk (some .boolean) (some (.int r0)) g h0) (hK : 1 ≤ dk) (t0 : gT g this = 12) (hk74 : ∀ (l4 : Int32) (h : CT), k74 l4 h = some (r0, h0) → J X g h 74 [(0, va_rf (some this)), (1, .int p1), (3, .int p3), (4, .int l4)] []) (l4 : Int32) (h : CT) (hf : pX13_tray_b74 g this p1 p2 p3 k74 l4 h = some (r0, h0)) : J X g h 74 [(0, va_rf (some this)), (1, .int p1), (3, .int p3), (4, .int l4)] [] := by
  unfold pX13_tray_b74 at hf
  refine J_iload Z.1 3 dX13_tray_74 rfl ?_
  refine J_iload_n Z.1 2 dX13_tray_76 rfl rfl ?_
  refine J_icmp_ge Z.1 99 dX13_tray_77 (by decide) (fun c1 => ?_) (fun c1 => ?_)
  · rw [if_pos c1] at hf
    refine J_iconst Z.1 (v := 1) (by decide) dX13_tray_99 ?_
    cases hf
    exact J_zret Z.1 Z.2.2.2.2.2 (z_n (Or.inr rfl)) dX13_tray_100
  · rw [if_neg c1] at hf
    refine J_aload_n Z.1 0 dX13_tray_80 rfl rfl ?_
    refine J_get (v := va_rf (hR h this 6)) Z.1 dX13_tray_81 fl_X13_16 t0 rfl ?_
    refine J_tr (fun r2 er2 => ?_)
    replace hf := lt_i hf r2 er2
    refine J_bipush Z.1 (v := 60) (by decide) dX13_tray_84 ?_
    refine J_iload_n Z.1 1 dX13_tray_86 rfl rfl ?_
    refine J_imul Z.1 dX13_tray_87 ?_
    refine J_iload Z.1 3 dX13_tray_88 rfl ?_
    refine J_iadd Z.1 dX13_tray_90 ?_
    refine J_lconst Z.1 (v := 0) (by decide) dX13_tray_91 ?_
    obtain ⟨a2, rfl, hf⟩ := nn_i hf
    obtain ⟨t3, hf⟩ := tg_i hf
    obtain ⟨i4, hf⟩ := ix_i hf
    refine J_lastore Z.1 dX13_tray_92 t3 i4 ?_
    refine J_th (fun h5 eh5 => ?_)
    replace hf := lt_i hf h5 eh5
    refine J_iinc Z.1 (v := 1) (lv2 := [(4, .int (l4 + 1)), (0, va_rf (some this)), (1, .int p1), (3, .int p3)]) 3 dX13_tray_93 rfl (by decide) (zL Z (by decide)) rfl ?_
    obtain ⟨x6, ex6⟩ : ∃ z, z = (l4 + 1) := ⟨_, rfl⟩
    replace hf := lt_i hf x6 ex6
    rw [← ex6]
    refine J_goto Z.1 74 dX13_tray_96 (by decide) ?_
    refine J_lv [1, 2, 3, 0] rfl ?_
    exact hk74 _ _ hf
def pX13_tray_l74 (g : MT) (this : Nat) (p1 : Int32) (p2 : Int32) (p3 : Int32) : Nat → Int32 → CT → Option ((Int32) × CT)
  | 0, _, _ => none
  | n + 1, l4, h => pX13_tray_b74 g this p1 p2 p3 (pX13_tray_l74 g this p1 p2 p3 n) l4 h
theorem pX13_tray_l74_ok {X : Cx} {G : Gx} {dk : Nat} {g : MT} {r0 : Int32} {h0 : CT} {this : Nat} {p1 : Int32} {p2 : Int32} {p3 : Int32} (Z : Zx X G cX13_tray RX13 5 dk (some .boolean) (some (.int r0)) g h0) (hK : 1 ≤ dk) (t0 : gT g this = 12) : ∀ (n : Nat) (l4 : Int32) (h : CT), pX13_tray_l74 g this p1 p2 p3 n l4 h = some (r0, h0) → J X g h 74 [(0, va_rf (some this)), (1, .int p1), (3, .int p3), (4, .int l4)] [] := by
  intro n
  induction n with
  | zero => intro l4 h hf; cases hf
  | succ n ih => intro l4 h hf; exact pX13_tray_b74_ok Z hK t0 ih l4 h hf
def pX13_tray (g : MT) (h : CT) (this : Nat) (p1 : Int32) (p2 : Int32) (p3 : Int32) : Option ((Int32) × CT) := tg g this 12 (lt (sI h this 1 0) fun h1 => (lt (sI h1 this 0 0) fun h2 => (if p1 < 0 then pX13_tray_b28 g this p1 p2 p3  h2 else if 4 ≤ p1 then pX13_tray_b28 g this p1 p2 p3  h2 else if p2 < 0 then pX13_tray_b28 g this p1 p2 p3  h2 else if p2 ≤ 3 then if p3 ≤ 60 then if 0 ≤ p3 then lt (hR h2 this 4) fun r9 => (nn r9 fun a9 => (tg g a9 20 (ix (gL g a9) p1 (lt (sI h2 a9 p1.toNatClampNeg p2) fun h12 => (lt (hR h12 this 5) fun r13 => (nn r13 fun a13 => (tg g a13 20 (ix (gL g a13) p1 (lt (sI h12 a13 p1.toNatClampNeg p3) fun h16 => (pX13_tray_l74 g this p1 p2 p3  FUEL 0 h16)))))))))) else bd2 (pX13_no g h2 this 6) fun x19 h17 => (bz x19 (some (x19, h17))) else bd2 (pX13_no g h2 this 5) fun x23 h21 => (bz x23 (some (x23, h21))) else pX13_tray_b28 g this p1 p2 p3  h2)))
set_option maxRecDepth 10000 in
set_option maxHeartbeats 4000000 in
theorem pX13_tray_ok (G : Gx) (dk : Nat) (hK : 1 ≤ dk) {g : MT} {h h0 : CT} {this : Nat} {p1 : Int32} {p2 : Int32} {p3 : Int32} {r0 : Int32} (hf : pX13_tray g h this p1 p2 p3 = some (r0, h0)) : Ctr G dk yX13_tray cX13_tray 5 (some .boolean) [va_rf (some this), .int p1, .int p2, .int p3] g h (some (.int r0)) g h0 := by
  refine Ctr.ofZ (lv := [(0, va_rf (some this)), (1, .int p1), (2, .int p2), (3, .int p3)]) (by decide) (by simp [cat_i, cat_l, cat_d, cat_rf]) rfl fun X Z => ?_
  unfold pX13_tray at hf
  obtain ⟨t0, hf⟩ := tg_i hf
  refine J_aload_n Z.1 0 dX13_tray_0 rfl rfl ?_
  refine J_iconst Z.1 (v := 0) (by decide) dX13_tray_1 ?_
  refine J_putI Z.1 dX13_tray_2 fl_X13_71 (fun q => by cases q) t0 rfl rfl (congrArg Value.int (hI_s _ _ _ _)) ?_
  refine J_th (fun h1 eh1 => ?_)
  replace hf := lt_i hf h1 eh1
  refine J_aload_n Z.1 0 dX13_tray_5 rfl rfl ?_
  refine J_iconst Z.1 (v := 0) (by decide) dX13_tray_6 ?_
  refine J_putI Z.1 dX13_tray_7 fl_X13_74 (fun q => by cases q) t0 rfl rfl (congrArg Value.int (hI_s _ _ _ _)) ?_
  refine J_th (fun h2 eh2 => ?_)
  replace hf := lt_i hf h2 eh2
  refine J_iload_n Z.1 1 dX13_tray_10 rfl rfl ?_
  refine J_if_lt Z.1 28 dX13_tray_11 (by decide) (fun c3 => ?_) (fun c3 => ?_)
  · rw [if_pos c3] at hf
    refine J_lv [0] rfl ?_
    exact pX13_tray_b28_ok Z hK t0  _ hf
  · rw [if_neg c3] at hf
    refine J_iload_n Z.1 1 dX13_tray_14 rfl rfl ?_
    refine J_iconst Z.1 (v := 4) (by decide) dX13_tray_15 ?_
    refine J_icmp_ge Z.1 28 dX13_tray_16 (by decide) (fun c4 => ?_) (fun c4 => ?_)
    · rw [if_pos c4] at hf
      refine J_lv [0] rfl ?_
      exact pX13_tray_b28_ok Z hK t0  _ hf
    · rw [if_neg c4] at hf
      refine J_iload_n Z.1 2 dX13_tray_19 rfl rfl ?_
      refine J_if_lt Z.1 28 dX13_tray_20 (by decide) (fun c5 => ?_) (fun c5 => ?_)
      · rw [if_pos c5] at hf
        refine J_lv [0] rfl ?_
        exact pX13_tray_b28_ok Z hK t0  _ hf
      · rw [if_neg c5] at hf
        refine J_iload_n Z.1 2 dX13_tray_23 rfl rfl ?_
        refine J_iconst Z.1 (v := 3) (by decide) dX13_tray_24 ?_
        refine J_icmp_le Z.1 34 dX13_tray_25 (by decide) (fun c6 => ?_) (fun c6 => ?_)
        · rw [if_pos c6] at hf
          refine J_iload_n Z.1 3 dX13_tray_34 rfl rfl ?_
          refine J_bipush Z.1 (v := 60) (by decide) dX13_tray_35 ?_
          refine J_icmp_le Z.1 46 dX13_tray_37 (by decide) (fun c7 => ?_) (fun c7 => ?_)
          · rw [if_pos c7] at hf
            refine J_iload_n Z.1 3 dX13_tray_46 rfl rfl ?_
            refine J_if_ge Z.1 57 dX13_tray_47 (by decide) (fun c8 => ?_) (fun c8 => ?_)
            · rw [if_pos c8] at hf
              refine J_aload_n Z.1 0 dX13_tray_57 rfl rfl ?_
              refine J_get (v := va_rf (hR h2 this 4)) Z.1 dX13_tray_58 fl_X13_7 t0 rfl ?_
              refine J_tr (fun r9 er9 => ?_)
              replace hf := lt_i hf r9 er9
              refine J_iload_n Z.1 1 dX13_tray_61 rfl rfl ?_
              refine J_iload_n Z.1 2 dX13_tray_62 rfl rfl ?_
              obtain ⟨a9, rfl, hf⟩ := nn_i hf
              obtain ⟨t10, hf⟩ := tg_i hf
              obtain ⟨i11, hf⟩ := ix_i hf
              refine J_iastore Z.1 dX13_tray_63 t10 i11 ?_
              refine J_th (fun h12 eh12 => ?_)
              replace hf := lt_i hf h12 eh12
              refine J_aload_n Z.1 0 dX13_tray_64 rfl rfl ?_
              refine J_get (v := va_rf (hR h12 this 5)) Z.1 dX13_tray_65 fl_X13_13 t0 rfl ?_
              refine J_tr (fun r13 er13 => ?_)
              replace hf := lt_i hf r13 er13
              refine J_iload_n Z.1 1 dX13_tray_68 rfl rfl ?_
              refine J_iload_n Z.1 3 dX13_tray_69 rfl rfl ?_
              obtain ⟨a13, rfl, hf⟩ := nn_i hf
              obtain ⟨t14, hf⟩ := tg_i hf
              obtain ⟨i15, hf⟩ := ix_i hf
              refine J_iastore Z.1 dX13_tray_70 t14 i15 ?_
              refine J_th (fun h16 eh16 => ?_)
              replace hf := lt_i hf h16 eh16
              refine J_iconst Z.1 (v := 0) (by decide) dX13_tray_71 ?_
              refine J_istore Z.1 (lv2 := [(4, .int 0), (0, va_rf (some this)), (1, .int p1), (2, .int p2), (3, .int p3)]) dX13_tray_72 (zL Z (by decide)) rfl ?_
              refine J_lv [1, 2, 4, 0] rfl ?_
              exact pX13_tray_l74_ok Z hK t0  FUEL _ _ hf
            · rw [if_neg c8] at hf
              refine J_aload_n Z.1 0 dX13_tray_50 rfl rfl ?_
              refine J_bipush Z.1 (v := 6) (by decide) dX13_tray_51 ?_
              obtain ⟨x19, h17, q18, hf⟩ := bd2_i hf
              refine J_callV (ci := 11) (as := [.int 6]) (rest := []) (sy := [.int x19]) Z.1 dX13_tray_53 cw_X13_84 (pX13_no_ok G (dk - 1) (by omega) q18) rfl rfl t0 (zG Z) rfl (by decide) (zF Z (by omega)) (zO Z (by omega) (by decide)) (zM g) Z.2.1 Z.2.1 rfl rfl ?_
              obtain ⟨z20, hf⟩ := bz_i hf
              cases hf
              exact J_zret Z.1 Z.2.2.2.2.2 (z_n z20) dX13_tray_56
          · rw [if_neg c7] at hf
            refine J_aload_n Z.1 0 dX13_tray_40 rfl rfl ?_
            refine J_iconst Z.1 (v := 5) (by decide) dX13_tray_41 ?_
            obtain ⟨x23, h21, q22, hf⟩ := bd2_i hf
            refine J_callV (ci := 11) (as := [.int 5]) (rest := []) (sy := [.int x23]) Z.1 dX13_tray_42 cw_X13_84 (pX13_no_ok G (dk - 1) (by omega) q22) rfl rfl t0 (zG Z) rfl (by decide) (zF Z (by omega)) (zO Z (by omega) (by decide)) (zM g) Z.2.1 Z.2.1 rfl rfl ?_
            obtain ⟨z24, hf⟩ := bz_i hf
            cases hf
            exact J_zret Z.1 Z.2.2.2.2.2 (z_n z24) dX13_tray_45
        · rw [if_neg c6] at hf
          refine J_lv [0] rfl ?_
          exact pX13_tray_b28_ok Z hK t0  _ hf
theorem dX13_trayed_0 : decode cX13_trayed 0 = .ok (.iload_n 1, 1) := by decide +kernel
theorem dX13_trayed_1 : decode cX13_trayed 1 = .ok (.ifCond .lt 8, 3) := by decide +kernel
theorem dX13_trayed_4 : decode cX13_trayed 4 = .ok (.iload_n 1, 1) := by decide +kernel
theorem dX13_trayed_5 : decode cX13_trayed 5 = .ok (.iconst 4, 1) := by decide +kernel
theorem dX13_trayed_6 : decode cX13_trayed 6 = .ok (.if_icmp .lt 7, 3) := by decide +kernel
theorem dX13_trayed_9 : decode cX13_trayed 9 = .ok (.iconst 1, 1) := by decide +kernel
theorem dX13_trayed_10 : decode cX13_trayed 10 = .ok (.goto 17, 3) := by decide +kernel
theorem dX13_trayed_13 : decode cX13_trayed 13 = .ok (.aload_n 0, 1) := by decide +kernel
theorem dX13_trayed_14 : decode cX13_trayed 14 = .ok (.getfield 13, 3) := by decide +kernel
theorem dX13_trayed_17 : decode cX13_trayed 17 = .ok (.iload_n 1, 1) := by decide +kernel
theorem dX13_trayed_18 : decode cX13_trayed 18 = .ok (.iaload, 1) := by decide +kernel
theorem dX13_trayed_19 : decode cX13_trayed 19 = .ok (.ifCond .ge 7, 3) := by decide +kernel
theorem dX13_trayed_22 : decode cX13_trayed 22 = .ok (.iconst 3, 1) := by decide +kernel
theorem dX13_trayed_23 : decode cX13_trayed 23 = .ok (.goto 4, 3) := by decide +kernel
theorem dX13_trayed_26 : decode cX13_trayed 26 = .ok (.iconst 0, 1) := by decide +kernel
theorem dX13_trayed_27 : decode cX13_trayed 27 = .ok (.ireturn, 1) := by decide +kernel
def pX13_trayed_b9 (g : MT) (h : CT) (this : Nat) (p1 : Int32)  : Option Int32 := some 1
set_option maxRecDepth 10000 in
set_option maxHeartbeats 4000000 in
theorem pX13_trayed_b9_ok {X : Cx} {G : Gx} {dk : Nat} {g : MT} {r0 : Int32} {h : CT} {this : Nat} {p1 : Int32} (Z : Zx X G cX13_trayed RX13 2 dk (some .int) (some (.int r0)) g h) (hK : 0 ≤ dk) (t0 : gT g this = 12)  (hf : pX13_trayed_b9 g h this p1 = some r0) : J X g h 9 [] [] := by
  unfold pX13_trayed_b9 at hf
  refine J_iconst Z.1 (v := 1) (by decide) dX13_trayed_9 ?_
  refine J_goto Z.1 27 dX13_trayed_10 (by decide) ?_
  cases hf
  exact J_iret Z.1 Z.2.2.2.2.2 dX13_trayed_27
def pX13_trayed (g : MT) (h : CT) (this : Nat) (p1 : Int32) : Option Int32 := tg g this 12 (if p1 < 0 then pX13_trayed_b9 g h this p1   else if p1 < 4 then lt (hR h this 5) fun r3 => (nn r3 fun a3 => (tg g a3 20 (ix (gL g a3) p1 (if 0 ≤ (hI h a3 p1.toNatClampNeg) then some 0 else some 3)))) else pX13_trayed_b9 g h this p1  )
set_option maxRecDepth 10000 in
set_option maxHeartbeats 4000000 in
theorem pX13_trayed_ok (G : Gx) (dk : Nat) (hK : 0 ≤ dk) {g : MT} {h : CT} {this : Nat} {p1 : Int32} {r0 : Int32} (hf : pX13_trayed g h this p1 = some r0) : Ctr G dk yX13_trayed cX13_trayed 2 (some .int) [va_rf (some this), .int p1] g h (some (.int r0)) g h := by
  refine Ctr.ofZ (lv := [(0, va_rf (some this)), (1, .int p1)]) (by decide) (by simp [cat_i, cat_l, cat_d, cat_rf]) rfl fun X Z => ?_
  unfold pX13_trayed at hf
  obtain ⟨t0, hf⟩ := tg_i hf
  refine J_iload_n Z.1 1 dX13_trayed_0 rfl rfl ?_
  refine J_if_lt Z.1 9 dX13_trayed_1 (by decide) (fun c1 => ?_) (fun c1 => ?_)
  · rw [if_pos c1] at hf
    refine J_lv [] rfl ?_
    exact pX13_trayed_b9_ok Z hK t0   hf
  · rw [if_neg c1] at hf
    refine J_iload_n Z.1 1 dX13_trayed_4 rfl rfl ?_
    refine J_iconst Z.1 (v := 4) (by decide) dX13_trayed_5 ?_
    refine J_icmp_lt Z.1 13 dX13_trayed_6 (by decide) (fun c2 => ?_) (fun c2 => ?_)
    · rw [if_pos c2] at hf
      refine J_aload_n Z.1 0 dX13_trayed_13 rfl rfl ?_
      refine J_get (v := va_rf (hR h this 5)) Z.1 dX13_trayed_14 fl_X13_13 t0 rfl ?_
      refine J_tr (fun r3 er3 => ?_)
      replace hf := lt_i hf r3 er3
      refine J_iload_n Z.1 1 dX13_trayed_17 rfl rfl ?_
      obtain ⟨a3, rfl, hf⟩ := nn_i hf
      obtain ⟨t4, hf⟩ := tg_i hf
      obtain ⟨i5, hf⟩ := ix_i hf
      refine J_iaload Z.1 dX13_trayed_18 t4 i5 ?_
      refine J_if_ge Z.1 26 dX13_trayed_19 (by decide) (fun c6 => ?_) (fun c6 => ?_)
      · rw [if_pos c6] at hf
        refine J_iconst Z.1 (v := 0) (by decide) dX13_trayed_26 ?_
        cases hf
        exact J_iret Z.1 Z.2.2.2.2.2 dX13_trayed_27
      · rw [if_neg c6] at hf
        refine J_iconst Z.1 (v := 3) (by decide) dX13_trayed_22 ?_
        refine J_goto Z.1 27 dX13_trayed_23 (by decide) ?_
        cases hf
        exact J_iret Z.1 Z.2.2.2.2.2 dX13_trayed_27
    · rw [if_neg c2] at hf
      refine J_lv [] rfl ?_
      exact pX13_trayed_b9_ok Z hK t0   hf
theorem dX13_placed_0 : decode cX13_placed 0 = .ok (.aload_n 0, 1) := by decide +kernel
theorem dX13_placed_1 : decode cX13_placed 1 = .ok (.iload_n 1, 1) := by decide +kernel
theorem dX13_placed_2 : decode cX13_placed 2 = .ok (.invokevirtual 88, 3) := by decide +kernel
theorem dX13_placed_5 : decode cX13_placed 5 = .ok (.istore_n 3, 1) := by decide +kernel
theorem dX13_placed_6 : decode cX13_placed 6 = .ok (.iload_n 3, 1) := by decide +kernel
theorem dX13_placed_7 : decode cX13_placed 7 = .ok (.ifCond .le 7, 3) := by decide +kernel
theorem dX13_placed_10 : decode cX13_placed 10 = .ok (.iload_n 3, 1) := by decide +kernel
theorem dX13_placed_11 : decode cX13_placed 11 = .ok (.goto 22, 3) := by decide +kernel
theorem dX13_placed_14 : decode cX13_placed 14 = .ok (.iload_n 2, 1) := by decide +kernel
theorem dX13_placed_15 : decode cX13_placed 15 = .ok (.ifCond .lt 13, 3) := by decide +kernel
theorem dX13_placed_18 : decode cX13_placed 18 = .ok (.iload_n 2, 1) := by decide +kernel
theorem dX13_placed_19 : decode cX13_placed 19 = .ok (.aload_n 0, 1) := by decide +kernel
theorem dX13_placed_20 : decode cX13_placed 20 = .ok (.getfield 13, 3) := by decide +kernel
theorem dX13_placed_23 : decode cX13_placed 23 = .ok (.iload_n 1, 1) := by decide +kernel
theorem dX13_placed_24 : decode cX13_placed 24 = .ok (.iaload, 1) := by decide +kernel
theorem dX13_placed_25 : decode cX13_placed 25 = .ok (.if_icmp .lt 7, 3) := by decide +kernel
theorem dX13_placed_28 : decode cX13_placed 28 = .ok (.iconst 4, 1) := by decide +kernel
theorem dX13_placed_29 : decode cX13_placed 29 = .ok (.goto 4, 3) := by decide +kernel
theorem dX13_placed_32 : decode cX13_placed 32 = .ok (.iconst 0, 1) := by decide +kernel
theorem dX13_placed_33 : decode cX13_placed 33 = .ok (.ireturn, 1) := by decide +kernel
def pX13_placed_b28 (g : MT) (h : CT) (this : Nat) (p1 : Int32) (p2 : Int32)  : Option Int32 := some 4
set_option maxRecDepth 10000 in
set_option maxHeartbeats 4000000 in
theorem pX13_placed_b28_ok {X : Cx} {G : Gx} {dk : Nat} {g : MT} {r0 : Int32} {h : CT} {this : Nat} {p1 : Int32} {p2 : Int32} (Z : Zx X G cX13_placed RX13 4 dk (some .int) (some (.int r0)) g h) (hK : 1 ≤ dk) (t0 : gT g this = 12)  (hf : pX13_placed_b28 g h this p1 p2 = some r0) : J X g h 28 [] [] := by
  unfold pX13_placed_b28 at hf
  refine J_iconst Z.1 (v := 4) (by decide) dX13_placed_28 ?_
  refine J_goto Z.1 33 dX13_placed_29 (by decide) ?_
  cases hf
  exact J_iret Z.1 Z.2.2.2.2.2 dX13_placed_33
def pX13_placed (g : MT) (h : CT) (this : Nat) (p1 : Int32) (p2 : Int32) : Option Int32 := tg g this 12 (bd (pX13_trayed g h this p1) fun x1 => (if x1 ≤ 0 then if p2 < 0 then pX13_placed_b28 g h this p1 p2   else lt (hR h this 5) fun r5 => (nn r5 fun a5 => (tg g a5 20 (ix (gL g a5) p1 (if p2 < (hI h a5 p1.toNatClampNeg) then some 0 else pX13_placed_b28 g h this p1 p2  )))) else some x1))
set_option maxRecDepth 10000 in
set_option maxHeartbeats 4000000 in
theorem pX13_placed_ok (G : Gx) (dk : Nat) (hK : 1 ≤ dk) {g : MT} {h : CT} {this : Nat} {p1 : Int32} {p2 : Int32} {r0 : Int32} (hf : pX13_placed g h this p1 p2 = some r0) : Ctr G dk yX13_placed cX13_placed 4 (some .int) [va_rf (some this), .int p1, .int p2] g h (some (.int r0)) g h := by
  refine Ctr.ofZ (lv := [(0, va_rf (some this)), (1, .int p1), (2, .int p2)]) (by decide) (by simp [cat_i, cat_l, cat_d, cat_rf]) rfl fun X Z => ?_
  unfold pX13_placed at hf
  obtain ⟨t0, hf⟩ := tg_i hf
  refine J_aload_n Z.1 0 dX13_placed_0 rfl rfl ?_
  refine J_iload_n Z.1 1 dX13_placed_1 rfl rfl ?_
  obtain ⟨x1, q2, hf⟩ := bd_i hf
  refine J_callV (ci := 11) (as := [.int p1]) (rest := []) (sy := [.int x1]) Z.1 dX13_placed_2 cw_X13_88 (pX13_trayed_ok G (dk - 1) (by omega) q2) rfl rfl t0 (zG Z) rfl (by decide) (zF Z (by omega)) (zO Z (by omega) (by decide)) (zM g) Z.2.1 Z.2.1 rfl rfl ?_
  refine J_istore_n Z.1 (lv2 := [(3, .int x1), (0, va_rf (some this)), (1, .int p1), (2, .int p2)]) dX13_placed_5 rfl (zL Z (by decide)) rfl ?_
  refine J_iload_n Z.1 0 dX13_placed_6 rfl rfl ?_
  refine J_if_le Z.1 14 dX13_placed_7 (by decide) (fun c3 => ?_) (fun c3 => ?_)
  · rw [if_pos c3] at hf
    refine J_iload_n Z.1 3 dX13_placed_14 rfl rfl ?_
    refine J_if_lt Z.1 28 dX13_placed_15 (by decide) (fun c4 => ?_) (fun c4 => ?_)
    · rw [if_pos c4] at hf
      refine J_lv [] rfl ?_
      exact pX13_placed_b28_ok Z hK t0   hf
    · rw [if_neg c4] at hf
      refine J_iload_n Z.1 3 dX13_placed_18 rfl rfl ?_
      refine J_aload_n Z.1 1 dX13_placed_19 rfl rfl ?_
      refine J_get (v := va_rf (hR h this 5)) Z.1 dX13_placed_20 fl_X13_13 t0 rfl ?_
      refine J_tr (fun r5 er5 => ?_)
      replace hf := lt_i hf r5 er5
      refine J_iload_n Z.1 2 dX13_placed_23 rfl rfl ?_
      obtain ⟨a5, rfl, hf⟩ := nn_i hf
      obtain ⟨t6, hf⟩ := tg_i hf
      obtain ⟨i7, hf⟩ := ix_i hf
      refine J_iaload Z.1 dX13_placed_24 t6 i7 ?_
      refine J_icmp_lt Z.1 32 dX13_placed_25 (by decide) (fun c8 => ?_) (fun c8 => ?_)
      · rw [if_pos c8] at hf
        refine J_iconst Z.1 (v := 0) (by decide) dX13_placed_32 ?_
        cases hf
        exact J_iret Z.1 Z.2.2.2.2.2 dX13_placed_33
      · rw [if_neg c8] at hf
        refine J_lv [] rfl ?_
        exact pX13_placed_b28_ok Z hK t0   hf
  · rw [if_neg c3] at hf
    refine J_iload_n Z.1 0 dX13_placed_10 rfl rfl ?_
    refine J_goto Z.1 33 dX13_placed_11 (by decide) ?_
    cases hf
    exact J_iret Z.1 Z.2.2.2.2.2 dX13_placed_33
theorem dX13_write_0 : decode cX13_write 0 = .ok (.aload_n 0, 1) := by decide +kernel
theorem dX13_write_1 : decode cX13_write 1 = .ok (.iconst 0, 1) := by decide +kernel
theorem dX13_write_2 : decode cX13_write 2 = .ok (.putfield 71, 3) := by decide +kernel
theorem dX13_write_5 : decode cX13_write 5 = .ok (.aload_n 0, 1) := by decide +kernel
theorem dX13_write_6 : decode cX13_write 6 = .ok (.aload_n 0, 1) := by decide +kernel
theorem dX13_write_7 : decode cX13_write 7 = .ok (.iload_n 1, 1) := by decide +kernel
theorem dX13_write_8 : decode cX13_write 8 = .ok (.iload_n 2, 1) := by decide +kernel
theorem dX13_write_9 : decode cX13_write 9 = .ok (.invokevirtual 92, 3) := by decide +kernel
theorem dX13_write_12 : decode cX13_write 12 = .ok (.putfield 74, 3) := by decide +kernel
theorem dX13_write_15 : decode cX13_write 15 = .ok (.aload_n 0, 1) := by decide +kernel
theorem dX13_write_16 : decode cX13_write 16 = .ok (.getfield 74, 3) := by decide +kernel
theorem dX13_write_19 : decode cX13_write 19 = .ok (.ifCond .le 5, 3) := by decide +kernel
theorem dX13_write_22 : decode cX13_write 22 = .ok (.iconst 0, 1) := by decide +kernel
theorem dX13_write_23 : decode cX13_write 23 = .ok (.ireturn, 1) := by decide +kernel
theorem dX13_write_24 : decode cX13_write 24 = .ok (.aload_n 0, 1) := by decide +kernel
theorem dX13_write_25 : decode cX13_write 25 = .ok (.getfield 16, 3) := by decide +kernel
theorem dX13_write_28 : decode cX13_write 28 = .ok (.bipush 60, 2) := by decide +kernel
theorem dX13_write_30 : decode cX13_write 30 = .ok (.iload_n 1, 1) := by decide +kernel
theorem dX13_write_31 : decode cX13_write 31 = .ok (.imul, 1) := by decide +kernel
theorem dX13_write_32 : decode cX13_write 32 = .ok (.iload_n 2, 1) := by decide +kernel
theorem dX13_write_33 : decode cX13_write 33 = .ok (.iadd, 1) := by decide +kernel
theorem dX13_write_34 : decode cX13_write 34 = .ok (.aload_n 0, 1) := by decide +kernel
theorem dX13_write_35 : decode cX13_write 35 = .ok (.getfield 7, 3) := by decide +kernel
theorem dX13_write_38 : decode cX13_write 38 = .ok (.iload_n 1, 1) := by decide +kernel
theorem dX13_write_39 : decode cX13_write 39 = .ok (.iaload, 1) := by decide +kernel
theorem dX13_write_40 : decode cX13_write 40 = .ok (.lload_n 3, 1) := by decide +kernel
theorem dX13_write_41 : decode cX13_write 41 = .ok (.invokestatic 96, 3) := by decide +kernel
theorem dX13_write_44 : decode cX13_write 44 = .ok (.lastore, 1) := by decide +kernel
theorem dX13_write_45 : decode cX13_write 45 = .ok (.iconst 1, 1) := by decide +kernel
theorem dX13_write_46 : decode cX13_write 46 = .ok (.ireturn, 1) := by decide +kernel
def pX13_write (g : MT) (h : CT) (this : Nat) (p1 : Int32) (p2 : Int32) (p3 : Int64) : Option ((Int32) × CT) := tg g this 12 (lt (sI h this 1 0) fun h1 => (bd (pX13_placed g h1 this p1 p2) fun x2 => (lt (sI h1 this 0 x2) fun h4 => (if (hI h4 this 0) ≤ 0 then lt (hR h4 this 6) fun r6 => (lt (hR h4 this 4) fun r7 => (nn r7 fun a7 => (tg g a7 20 (ix (gL g a7) p1 (nn r6 fun a6 => (tg g a6 21 (ix (gL g a6) ((60 * p1) + p2) (lt (sL h4 a6 ((60 * p1) + p2).toNatClampNeg (pX13_trims (hI h4 a7 p1.toNatClampNeg) p3)) fun h12 => (some (1, h12)))))))))) else some (0, h4)))))
set_option maxRecDepth 10000 in
set_option maxHeartbeats 4000000 in
theorem pX13_write_ok (G : Gx) (dk : Nat) (hK : 2 ≤ dk) {g : MT} {h h0 : CT} {this : Nat} {p1 : Int32} {p2 : Int32} {p3 : Int64} {r0 : Int32} (hf : pX13_write g h this p1 p2 p3 = some (r0, h0)) : Ctr G dk yX13_write cX13_write 5 (some .boolean) [va_rf (some this), .int p1, .int p2, .long p3] g h (some (.int r0)) g h0 := by
  refine Ctr.ofZ (lv := [(0, va_rf (some this)), (1, .int p1), (2, .int p2), (3, .long p3)]) (by decide) (by simp [cat_i, cat_l, cat_d, cat_rf]) rfl fun X Z => ?_
  unfold pX13_write at hf
  obtain ⟨t0, hf⟩ := tg_i hf
  refine J_aload_n Z.1 0 dX13_write_0 rfl rfl ?_
  refine J_iconst Z.1 (v := 0) (by decide) dX13_write_1 ?_
  refine J_putI Z.1 dX13_write_2 fl_X13_71 (fun q => by cases q) t0 rfl rfl (congrArg Value.int (hI_s _ _ _ _)) ?_
  refine J_th (fun h1 eh1 => ?_)
  replace hf := lt_i hf h1 eh1
  refine J_aload_n Z.1 0 dX13_write_5 rfl rfl ?_
  refine J_aload_n Z.1 0 dX13_write_6 rfl rfl ?_
  refine J_iload_n Z.1 1 dX13_write_7 rfl rfl ?_
  refine J_iload_n Z.1 2 dX13_write_8 rfl rfl ?_
  obtain ⟨x2, q3, hf⟩ := bd_i hf
  refine J_callV (ci := 11) (as := [.int p1, .int p2]) (rest := [va_rf (some this)]) (sy := [.int x2, va_rf (some this)]) Z.1 dX13_write_9 cw_X13_92 (pX13_placed_ok G (dk - 1) (by omega) q3) rfl rfl t0 (zG Z) rfl (by simp [cat_i, cat_l, cat_d, cat_rf]) (zF Z (by omega)) (zO Z (by omega) (by decide)) (zM g) Z.2.1 Z.2.1 rfl rfl ?_
  refine J_putI Z.1 dX13_write_12 fl_X13_74 (fun q => by cases q) t0 rfl rfl (congrArg Value.int (hI_s _ _ _ _)) ?_
  refine J_th (fun h4 eh4 => ?_)
  replace hf := lt_i hf h4 eh4
  refine J_aload_n Z.1 0 dX13_write_15 rfl rfl ?_
  refine J_get (v := .int (hI h4 this 0)) Z.1 dX13_write_16 fl_X13_74 t0 rfl ?_
  refine J_if_le Z.1 24 dX13_write_19 (by decide) (fun c5 => ?_) (fun c5 => ?_)
  · rw [if_pos c5] at hf
    refine J_aload_n Z.1 0 dX13_write_24 rfl rfl ?_
    refine J_get (v := va_rf (hR h4 this 6)) Z.1 dX13_write_25 fl_X13_16 t0 rfl ?_
    refine J_tr (fun r6 er6 => ?_)
    replace hf := lt_i hf r6 er6
    refine J_bipush Z.1 (v := 60) (by decide) dX13_write_28 ?_
    refine J_iload_n Z.1 1 dX13_write_30 rfl rfl ?_
    refine J_imul Z.1 dX13_write_31 ?_
    refine J_iload_n Z.1 2 dX13_write_32 rfl rfl ?_
    refine J_iadd Z.1 dX13_write_33 ?_
    refine J_aload_n Z.1 0 dX13_write_34 rfl rfl ?_
    refine J_get (v := va_rf (hR h4 this 4)) Z.1 dX13_write_35 fl_X13_7 t0 rfl ?_
    refine J_tr (fun r7 er7 => ?_)
    replace hf := lt_i hf r7 er7
    refine J_iload_n Z.1 1 dX13_write_38 rfl rfl ?_
    obtain ⟨a7, rfl, hf⟩ := nn_i hf
    obtain ⟨t8, hf⟩ := tg_i hf
    obtain ⟨i9, hf⟩ := ix_i hf
    refine J_iaload Z.1 dX13_write_39 t8 i9 ?_
    refine J_lload_n Z.1 3 dX13_write_40 rfl rfl ?_
    refine J_callS (as := [.int (hI h4 a7 p1.toNatClampNeg), .long p3]) (rest := [.int ((60 * p1) + p2), va_rf r6]) (sy := [.long (pX13_trims (hI h4 a7 p1.toNatClampNeg) p3), .int ((60 * p1) + p2), va_rf r6]) Z.1 dX13_write_41 cw_X13_96 (pX13_trims_ok G (dk - 1) (by omega) g h4 (hI h4 a7 p1.toNatClampNeg) p3) (zG Z) rfl (by simp [cat_i, cat_l, cat_d, cat_rf]) (zF Z (by omega)) (zO Z (by omega) (by decide)) (zM g) Z.2.1 Z.2.1 rfl rfl ?_
    obtain ⟨a6, rfl, hf⟩ := nn_i hf
    obtain ⟨t10, hf⟩ := tg_i hf
    obtain ⟨i11, hf⟩ := ix_i hf
    refine J_lastore Z.1 dX13_write_44 t10 i11 ?_
    refine J_th (fun h12 eh12 => ?_)
    replace hf := lt_i hf h12 eh12
    refine J_iconst Z.1 (v := 1) (by decide) dX13_write_45 ?_
    cases hf
    exact J_zret Z.1 Z.2.2.2.2.2 (z_n (Or.inr rfl)) dX13_write_46
  · rw [if_neg c5] at hf
    refine J_iconst Z.1 (v := 0) (by decide) dX13_write_22 ?_
    cases hf
    exact J_zret Z.1 Z.2.2.2.2.2 (z_n (Or.inl rfl)) dX13_write_23
theorem dX13_has_0 : decode cX13_has 0 = .ok (.iload_n 0, 1) := by decide +kernel
theorem dX13_has_1 : decode cX13_has 1 = .ok (.iload_n 1, 1) := by decide +kernel
theorem dX13_has_2 : decode cX13_has 2 = .ok (.ishr, 1) := by decide +kernel
theorem dX13_has_3 : decode cX13_has 3 = .ok (.iconst 1, 1) := by decide +kernel
theorem dX13_has_4 : decode cX13_has 4 = .ok (.iand, 1) := by decide +kernel
theorem dX13_has_5 : decode cX13_has 5 = .ok (.iconst 1, 1) := by decide +kernel
theorem dX13_has_6 : decode cX13_has 6 = .ok (.if_icmp .ne 7, 3) := by decide +kernel
theorem dX13_has_9 : decode cX13_has 9 = .ok (.iconst 1, 1) := by decide +kernel
theorem dX13_has_10 : decode cX13_has 10 = .ok (.goto 4, 3) := by decide +kernel
theorem dX13_has_13 : decode cX13_has 13 = .ok (.iconst 0, 1) := by decide +kernel
theorem dX13_has_14 : decode cX13_has 14 = .ok (.ireturn, 1) := by decide +kernel
def pX13_has (p0 : Int32) (p1 : Int32) : Int32 := if ((p0 >>> (p1 &&& 31)) &&& 1) = 1 then 1 else 0
set_option maxRecDepth 10000 in
set_option maxHeartbeats 4000000 in
theorem pX13_has_ok (G : Gx) (dk : Nat) (hK : 0 ≤ dk) (g : MT) (h0 : CT) (p0 : Int32) (p1 : Int32) : Ctr G dk yX13_has cX13_has 2 (some .boolean) [.int p0, .int p1] g h0 (some (.int (pX13_has p0 p1))) g h0 := by
  obtain ⟨r0, hf⟩ : ∃ z, pX13_has p0 p1 = z := ⟨_, rfl⟩
  rw [hf]
  refine Ctr.ofZ (lv := [(0, .int p0), (1, .int p1)]) (by decide) (by simp [cat_i, cat_l, cat_d, cat_rf]) rfl fun X Z => ?_
  unfold pX13_has at hf
  refine J_iload_n Z.1 0 dX13_has_0 rfl rfl ?_
  refine J_iload_n Z.1 1 dX13_has_1 rfl rfl ?_
  refine J_ishr Z.1 dX13_has_2 ?_
  refine J_iconst Z.1 (v := 1) (by decide) dX13_has_3 ?_
  refine J_iand Z.1 dX13_has_4 ?_
  refine J_iconst Z.1 (v := 1) (by decide) dX13_has_5 ?_
  refine J_icmp_ne Z.1 13 dX13_has_6 (by decide) (fun c1 => ?_) (fun c1 => ?_)
  · rw [if_neg c1] at hf
    refine J_iconst Z.1 (v := 0) (by decide) dX13_has_13 ?_
    cases hf
    exact J_zret Z.1 Z.2.2.2.2.2 (z_n (Or.inl rfl)) dX13_has_14
  · rw [if_pos c1] at hf
    refine J_iconst Z.1 (v := 1) (by decide) dX13_has_9 ?_
    refine J_goto Z.1 14 dX13_has_10 (by decide) ?_
    cases hf
    exact J_zret Z.1 Z.2.2.2.2.2 (z_n (Or.inr rfl)) dX13_has_14
theorem pX13_has_z (p0 : Int32) (p1 : Int32) : is01 (pX13_has p0 p1) := by
  unfold pX13_has
  (repeat' split) <;> first | exact Or.inl rfl | exact Or.inr rfl | apply_assumption
