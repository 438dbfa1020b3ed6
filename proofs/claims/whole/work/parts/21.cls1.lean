/-! written by wip/whole/gen.py out of the printed bytecode -/
theorem dX4_init_0 : decode cX4_init 0 = .ok (.aload_n 0, 1) := by decide +kernel
theorem dX4_init_1 : decode cX4_init 1 = .ok (.invokespecial 1, 3) := by decide +kernel
theorem dX4_init_4 : decode cX4_init 4 = .ok (.return_, 1) := by decide +kernel
def pX4_init (g : MT) (h : CT) (this : Nat) : Option (MT × CT) := gq Prod.fst g (some (g, h))
theorem pX4_init_mono {g g0 : MT} {h h0 : CT} {this : Nat} (hf : pX4_init g h this = some (g0, h0)) : gN g ≤ gN g0 ∧ gU g ≤ gU g0 := by
  unfold pX4_init at hf
  exact (gq_i hf).1
set_option maxRecDepth 10000 in
set_option maxHeartbeats 4000000 in
theorem pX4_init_ok (G : Gx) (dk : Nat) (hK : 1 ≤ dk) {g g0 : MT} {h h0 : CT} {this : Nat} (hf : pX4_init g h this = some (g0, h0)) : Ctr G dk yX4_init cX4_init 1 none [va_rf (some this)] g h none g0 h0 := by
  unfold pX4_init at hf
  replace hf := gq_i hf
  obtain ⟨hm, hf⟩ := hf
  refine Ctr.ofY (lv := [(0, va_rf (some this))]) (by decide +kernel) (by simp [cat_i, cat_l, cat_d, cat_rf]) rfl hm fun X Z M => ?_
  refine J_aload_n Z.1 0 dX4_init_0 rfl rfl ?_
  refine J_objInit Z.1 dX4_init_1 q_366 q_168 q_169 (yO2 Z (by omega) (by simp [cat_i, cat_l, cat_d, cat_rf])) (yF Z (d := 0) (by omega)) ?_
  cases hf
  exact J_vret Z.1 Z.2.2.2.2.1 dX4_init_4
theorem dX4_set_0 : decode cX4_set 0 = .ok (.aload_n 0, 1) := by decide +kernel
theorem dX4_set_1 : decode cX4_set 1 = .ok (.dload_n 1, 1) := by decide +kernel
theorem dX4_set_2 : decode cX4_set 2 = .ok (.putfield 7, 3) := by decide +kernel
theorem dX4_set_5 : decode cX4_set 5 = .ok (.aload_n 0, 1) := by decide +kernel
theorem dX4_set_6 : decode cX4_set 6 = .ok (.iconst 0, 1) := by decide +kernel
theorem dX4_set_7 : decode cX4_set 7 = .ok (.putfield 13, 3) := by decide +kernel
theorem dX4_set_10 : decode cX4_set 10 = .ok (.return_, 1) := by decide +kernel
def pX4_set (g : MT) (h : CT) (this : Nat) (p1 : UInt64) : Option CT := tg g this 4 (lt (sD h this 0 p1) fun h1 => (lt (sI h1 this 1 0) fun h2 => (some h2)))
set_option maxRecDepth 10000 in
set_option maxHeartbeats 4000000 in
theorem pX4_set_ok (G : Gx) (dk : Nat) (hK : 0 ≤ dk) {g : MT} {h h0 : CT} {this : Nat} {p1 : UInt64} (hf : pX4_set g h this p1 = some h0) : Ctr G dk yX4_set cX4_set 3 none [va_rf (some this), .double p1] g h none g h0 := by
  refine Ctr.ofZ (lv := [(0, va_rf (some this)), (1, .double p1)]) (by decide +kernel) (by simp [cat_i, cat_l, cat_d, cat_rf]) rfl fun X Z => ?_
  unfold pX4_set at hf
  replace hf := tg_i hf
  obtain ⟨t0, hf⟩ := hf
  refine J_aload_n Z.1 0 dX4_set_0 rfl rfl ?_
  refine J_dload_n Z.1 1 dX4_set_1 rfl rfl ?_
  refine J_putD Z.1 dX4_set_2 fl_X4_7 (fun q => by cases q) t0 rfl ?_
  refine J_th (fun h1 eh1 => ?_)
  replace hf := lt_i hf h1 eh1
  refine J_aload_n Z.1 0 dX4_set_5 rfl rfl ?_
  refine J_iconst Z.1 (v := 0) (by decide) dX4_set_6 ?_
  refine J_putI Z.1 dX4_set_7 fl_X4_13 (fun q => by cases q) t0 (z_n (Or.inl rfl)) (z_f (Or.inl rfl)) (congrArg Value.int (hI_s _ _ _ _)) ?_
  refine J_th (fun h2 eh2 => ?_)
  replace hf := lt_i hf h2 eh2
  cases hf
  exact J_vret Z.1 Z.2.2.2.2.2 dX4_set_10
theorem dX4_setOdd_0 : decode cX4_setOdd 0 = .ok (.aload_n 0, 1) := by decide +kernel
theorem dX4_setOdd_1 : decode cX4_setOdd 1 = .ok (.dconst 0, 1) := by decide +kernel
theorem dX4_setOdd_2 : decode cX4_setOdd 2 = .ok (.putfield 7, 3) := by decide +kernel
theorem dX4_setOdd_5 : decode cX4_setOdd 5 = .ok (.aload_n 0, 1) := by decide +kernel
theorem dX4_setOdd_6 : decode cX4_setOdd 6 = .ok (.iconst 1, 1) := by decide +kernel
theorem dX4_setOdd_7 : decode cX4_setOdd 7 = .ok (.putfield 13, 3) := by decide +kernel
theorem dX4_setOdd_10 : decode cX4_setOdd 10 = .ok (.return_, 1) := by decide +kernel
def pX4_setOdd (g : MT) (h : CT) (this : Nat) : Option CT := tg g this 4 (lt (sD h this 0 0) fun h1 => (lt (sI h1 this 1 1) fun h2 => (some h2)))
set_option maxRecDepth 10000 in
set_option maxHeartbeats 4000000 in
theorem pX4_setOdd_ok (G : Gx) (dk : Nat) (hK : 0 ≤ dk) {g : MT} {h h0 : CT} {this : Nat} (hf : pX4_setOdd g h this = some h0) : Ctr G dk yX4_setOdd cX4_setOdd 1 none [va_rf (some this)] g h none g h0 := by
  refine Ctr.ofZ (lv := [(0, va_rf (some this))]) (by decide +kernel) (by simp [cat_i, cat_l, cat_d, cat_rf]) rfl fun X Z => ?_
  unfold pX4_setOdd at hf
  replace hf := tg_i hf
  obtain ⟨t0, hf⟩ := hf
  refine J_aload_n Z.1 0 dX4_setOdd_0 rfl rfl ?_
  refine J_dconst0 Z.1 dX4_setOdd_1 ?_
  refine J_putD Z.1 dX4_setOdd_2 fl_X4_7 (fun q => by cases q) t0 rfl ?_
  refine J_th (fun h1 eh1 => ?_)
  replace hf := lt_i hf h1 eh1
  refine J_aload_n Z.1 0 dX4_setOdd_5 rfl rfl ?_
  refine J_iconst Z.1 (v := 1) (by decide) dX4_setOdd_6 ?_
  refine J_putI Z.1 dX4_setOdd_7 fl_X4_13 (fun q => by cases q) t0 (z_n (Or.inr rfl)) (z_f (Or.inr rfl)) (congrArg Value.int (hI_s _ _ _ _)) ?_
  refine J_th (fun h2 eh2 => ?_)
  replace hf := lt_i hf h2 eh2
  cases hf
  exact J_vret Z.1 Z.2.2.2.2.2 dX4_setOdd_10
theorem dX4_setKind_0 : decode cX4_setKind 0 = .ok (.iload_n 1, 1) := by decide +kernel
theorem dX4_setKind_1 : decode cX4_setKind 1 = .ok (.tableswitch 68 2 5 #[31, 41, 51, 61], 31) := by decide +kernel
theorem dX4_setKind_32 : decode cX4_setKind 32 = .ok (.aload_n 0, 1) := by decide +kernel
theorem dX4_setKind_33 : decode cX4_setKind 33 = .ok (.ldc2_w 17, 3) := by decide +kernel
theorem dX4_setKind_36 : decode cX4_setKind 36 = .ok (.invokevirtual 19, 3) := by decide +kernel
theorem dX4_setKind_39 : decode cX4_setKind 39 = .ok (.goto 35, 3) := by decide +kernel
theorem dX4_setKind_42 : decode cX4_setKind 42 = .ok (.aload_n 0, 1) := by decide +kernel
theorem dX4_setKind_43 : decode cX4_setKind 43 = .ok (.ldc2_w 23, 3) := by decide +kernel
theorem dX4_setKind_46 : decode cX4_setKind 46 = .ok (.invokevirtual 19, 3) := by decide +kernel
theorem dX4_setKind_49 : decode cX4_setKind 49 = .ok (.goto 25, 3) := by decide +kernel
theorem dX4_setKind_52 : decode cX4_setKind 52 = .ok (.aload_n 0, 1) := by decide +kernel
theorem dX4_setKind_53 : decode cX4_setKind 53 = .ok (.ldc2_w 25, 3) := by decide +kernel
theorem dX4_setKind_56 : decode cX4_setKind 56 = .ok (.invokevirtual 19, 3) := by decide +kernel
theorem dX4_setKind_59 : decode cX4_setKind 59 = .ok (.goto 15, 3) := by decide +kernel
theorem dX4_setKind_62 : decode cX4_setKind 62 = .ok (.aload_n 0, 1) := by decide +kernel
theorem dX4_setKind_63 : decode cX4_setKind 63 = .ok (.invokevirtual 27, 3) := by decide +kernel
theorem dX4_setKind_66 : decode cX4_setKind 66 = .ok (.goto 8, 3) := by decide +kernel
theorem dX4_setKind_69 : decode cX4_setKind 69 = .ok (.aload_n 0, 1) := by decide +kernel
theorem dX4_setKind_70 : decode cX4_setKind 70 = .ok (.dconst 0, 1) := by decide +kernel
theorem dX4_setKind_71 : decode cX4_setKind 71 = .ok (.invokevirtual 19, 3) := by decide +kernel
theorem dX4_setKind_74 : decode cX4_setKind 74 = .ok (.return_, 1) := by decide +kernel
def pX4_setKind (g : MT) (h : CT) (this : Nat) (p1 : Int32) : Option CT := tg g this 4 (if p1 = 2 then bd (pX4_set g h this 9223372036854775808) fun h2 => (some h2) else (if p1 = 3 then bd (pX4_set g h this 9218868437227405312) fun h5 => (some h5) else (if p1 = 4 then bd (pX4_set g h this 18442240474082181120) fun h8 => (some h8) else (if p1 = 5 then bd (pX4_setOdd g h this) fun h11 => (some h11) else (bd (pX4_set g h this 0) fun h13 => (some h13))))))
set_option maxRecDepth 10000 in
set_option maxHeartbeats 4000000 in
theorem pX4_setKind_ok (G : Gx) (dk : Nat) (hK : 1 ≤ dk) {g : MT} {h h0 : CT} {this : Nat} {p1 : Int32} (hf : pX4_setKind g h this p1 = some h0) : Ctr G dk yX4_setKind cX4_setKind 2 none [va_rf (some this), .int p1] g h none g h0 := by
  refine Ctr.ofZ (lv := [(0, va_rf (some this)), (1, .int p1)]) (by decide +kernel) (by simp [cat_i, cat_l, cat_d, cat_rf]) rfl fun X Z => ?_
  unfold pX4_setKind at hf
  replace hf := tg_i hf
  obtain ⟨t0, hf⟩ := hf
  refine J_iload_n Z.1 1 dX4_setKind_0 rfl rfl ?_
  by_cases c1 : p1 = 2
  · rw [if_pos c1] at hf
    refine J_tabIn (off := 31) Z.1 32 dX4_setKind_1 (by rw [c1]; decide) (by rw [c1]; decide) (by rw [c1]; decide) (by decide) ?_
    refine J_aload_n Z.1 0 dX4_setKind_32 rfl rfl ?_
    refine J_ldc2d Z.1 q_932 (by decide +kernel) dX4_setKind_33 ?_
    replace hf := bd_i hf
    obtain ⟨h2, q3, hf⟩ := hf
    refine J_callV (ci := 3) (as := [.double 9223372036854775808]) (rest := []) (sy := []) Z.1 dX4_setKind_36 cw_X4_19 (pX4_set_ok G (dk - 1) (by omega) q3) rfl rfl t0 (zG Z) rfl (by decide) (zF Z (by omega)) (zO Z (by omega) (by decide)) (zM _) Z.2.1 Z.2.1 rfl rfl ?_
    refine J_goto Z.1 74 dX4_setKind_39 (by decide) ?_
    cases hf
    exact J_vret Z.1 Z.2.2.2.2.2 dX4_setKind_74
  rw [if_neg c1] at hf
  by_cases c4 : p1 = 3
  · rw [if_pos c4] at hf
    refine J_tabIn (off := 41) Z.1 42 dX4_setKind_1 (by rw [c4]; decide) (by rw [c4]; decide) (by rw [c4]; decide) (by decide) ?_
    refine J_aload_n Z.1 0 dX4_setKind_42 rfl rfl ?_
    refine J_ldc2d Z.1 q_934 (by decide +kernel) dX4_setKind_43 ?_
    replace hf := bd_i hf
    obtain ⟨h5, q6, hf⟩ := hf
    refine J_callV (ci := 3) (as := [.double 9218868437227405312]) (rest := []) (sy := []) Z.1 dX4_setKind_46 cw_X4_19 (pX4_set_ok G (dk - 1) (by omega) q6) rfl rfl t0 (zG Z) rfl (by decide) (zF Z (by omega)) (zO Z (by omega) (by decide)) (zM _) Z.2.1 Z.2.1 rfl rfl ?_
    refine J_goto Z.1 74 dX4_setKind_49 (by decide) ?_
    cases hf
    exact J_vret Z.1 Z.2.2.2.2.2 dX4_setKind_74
  rw [if_neg c4] at hf
  by_cases c7 : p1 = 4
  · rw [if_pos c7] at hf
    refine J_tabIn (off := 51) Z.1 52 dX4_setKind_1 (by rw [c7]; decide) (by rw [c7]; decide) (by rw [c7]; decide) (by decide) ?_
    refine J_aload_n Z.1 0 dX4_setKind_52 rfl rfl ?_
    refine J_ldc2d Z.1 q_935 (by decide +kernel) dX4_setKind_53 ?_
    replace hf := bd_i hf
    obtain ⟨h8, q9, hf⟩ := hf
    refine J_callV (ci := 3) (as := [.double 18442240474082181120]) (rest := []) (sy := []) Z.1 dX4_setKind_56 cw_X4_19 (pX4_set_ok G (dk - 1) (by omega) q9) rfl rfl t0 (zG Z) rfl (by decide) (zF Z (by omega)) (zO Z (by omega) (by decide)) (zM _) Z.2.1 Z.2.1 rfl rfl ?_
    refine J_goto Z.1 74 dX4_setKind_59 (by decide) ?_
    cases hf
    exact J_vret Z.1 Z.2.2.2.2.2 dX4_setKind_74
  rw [if_neg c7] at hf
  by_cases c10 : p1 = 5
  · rw [if_pos c10] at hf
    refine J_tabIn (off := 61) Z.1 62 dX4_setKind_1 (by rw [c10]; decide) (by rw [c10]; decide) (by rw [c10]; decide) (by decide) ?_
    refine J_aload_n Z.1 0 dX4_setKind_62 rfl rfl ?_
    replace hf := bd_i hf
    obtain ⟨h11, q12, hf⟩ := hf
    refine J_callV (ci := 3) (as := []) (rest := []) (sy := []) Z.1 dX4_setKind_63 cw_X4_27 (pX4_setOdd_ok G (dk - 1) (by omega) q12) rfl rfl t0 (zG Z) rfl (by decide) (zF Z (by omega)) (zO Z (by omega) (by decide)) (zM _) Z.2.1 Z.2.1 rfl rfl ?_
    refine J_goto Z.1 74 dX4_setKind_66 (by decide) ?_
    cases hf
    exact J_vret Z.1 Z.2.2.2.2.2 dX4_setKind_74
  rw [if_neg c10] at hf
  have hout : p1.toInt < 2 ∨ 5 < p1.toInt := by
    have c1q := lv_neT c1 (a := 2) (by decide)
    have c4q := lv_neT c4 (a := 3) (by decide)
    have c7q := lv_neT c7 (a := 4) (by decide)
    have c10q := lv_neT c10 (a := 5) (by decide)
    omega
  refine J_tabOut Z.1 69 dX4_setKind_1 hout (by decide) ?_
  refine J_aload_n Z.1 0 dX4_setKind_69 rfl rfl ?_
  refine J_dconst0 Z.1 dX4_setKind_70 ?_
  replace hf := bd_i hf
  obtain ⟨h13, q14, hf⟩ := hf
  refine J_callV (ci := 3) (as := [.double 0]) (rest := []) (sy := []) Z.1 dX4_setKind_71 cw_X4_19 (pX4_set_ok G (dk - 1) (by omega) q14) rfl rfl t0 (zG Z) rfl (by decide) (zF Z (by omega)) (zO Z (by omega) (by decide)) (zM _) Z.2.1 Z.2.1 rfl rfl ?_
  cases hf
  exact J_vret Z.1 Z.2.2.2.2.2 dX4_setKind_74
theorem dX4_isInfinite_0 : decode cX4_isInfinite 0 = .ok (.dload_n 0, 1) := by decide +kernel
theorem dX4_isInfinite_1 : decode cX4_isInfinite 1 = .ok (.ldc2_w 37, 3) := by decide +kernel
theorem dX4_isInfinite_4 : decode cX4_isInfinite 4 = .ok (.dcmp .l, 1) := by decide +kernel
theorem dX4_isInfinite_5 : decode cX4_isInfinite 5 = .ok (.ifCond .gt 11, 3) := by decide +kernel
theorem dX4_isInfinite_8 : decode cX4_isInfinite 8 = .ok (.dload_n 0, 1) := by decide +kernel
theorem dX4_isInfinite_9 : decode cX4_isInfinite 9 = .ok (.ldc2_w 39, 3) := by decide +kernel
theorem dX4_isInfinite_12 : decode cX4_isInfinite 12 = .ok (.dcmp .g, 1) := by decide +kernel
theorem dX4_isInfinite_13 : decode cX4_isInfinite 13 = .ok (.ifCond .ge 7, 3) := by decide +kernel
theorem dX4_isInfinite_16 : decode cX4_isInfinite 16 = .ok (.iconst 1, 1) := by decide +kernel
theorem dX4_isInfinite_17 : decode cX4_isInfinite 17 = .ok (.goto 4, 3) := by decide +kernel
theorem dX4_isInfinite_20 : decode cX4_isInfinite 20 = .ok (.iconst 0, 1) := by decide +kernel
theorem dX4_isInfinite_21 : decode cX4_isInfinite 21 = .ok (.ireturn, 1) := by decide +kernel
def pX4_isInfinite_b16 (p0 : UInt64)  : Int32 := 1
set_option maxRecDepth 10000 in
set_option maxHeartbeats 4000000 in
theorem pX4_isInfinite_b16_ok {X : Cx} {G : Gx} {dk : Nat} {g : MT} {r0 : Int32} {h0 : CT} {p0 : UInt64} (Z : Zx X G cX4_isInfinite RX4 2 dk (some .boolean) (some (.int r0)) g h0) (hK : 0 ≤ dk)  (hf : pX4_isInfinite_b16 p0 = r0) : J X g h0 16 [] [] := by
  unfold pX4_isInfinite_b16 at hf
  refine J_iconst Z.1 (v := 1) (by decide) dX4_isInfinite_16 ?_
  refine J_goto Z.1 21 dX4_isInfinite_17 (by decide) ?_
  cases hf
  exact J_zret Z.1 Z.2.2.2.2.2 (z_n (Or.inr rfl)) dX4_isInfinite_21
def pX4_isInfinite (p0 : UInt64) : Int32 := if 0 < (Op.cmpValue (FP.dcmp p0 9218868437227405311) .l) then pX4_isInfinite_b16 p0   else if 0 ≤ (Op.cmpValue (FP.dcmp p0 18442240474082181119) .g) then 0 else pX4_isInfinite_b16 p0  
set_option maxRecDepth 10000 in
set_option maxHeartbeats 4000000 in
theorem pX4_isInfinite_ok (G : Gx) (dk : Nat) (hK : 0 ≤ dk) (g : MT) (h0 : CT) (p0 : UInt64) : Ctr G dk yX4_isInfinite cX4_isInfinite 2 (some .boolean) [.double p0] g h0 (some (.int (pX4_isInfinite p0))) g h0 := by
  obtain ⟨r0, hf⟩ : ∃ z, pX4_isInfinite p0 = z := ⟨_, rfl⟩
  rw [hf]
  refine Ctr.ofZ (lv := [(0, .double p0)]) (by decide +kernel) (by simp [cat_i, cat_l, cat_d, cat_rf]) rfl fun X Z => ?_
  unfold pX4_isInfinite at hf
  refine J_dload_n Z.1 0 dX4_isInfinite_0 rfl rfl ?_
  refine J_ldc2d Z.1 q_861 (by decide +kernel) dX4_isInfinite_1 ?_
  refine J_dcmp Z.1 dX4_isInfinite_4 ?_
  refine J_if_gt Z.1 16 dX4_isInfinite_5 (by decide) (fun c1 => ?_) (fun c1 => ?_)
  · rw [if_pos c1] at hf
    refine J_lv [] rfl ?_
    exact pX4_isInfinite_b16_ok Z hK   hf
  · rw [if_neg c1] at hf
    refine J_dload_n Z.1 0 dX4_isInfinite_8 rfl rfl ?_
    refine J_ldc2d Z.1 q_862 (by decide +kernel) dX4_isInfinite_9 ?_
    refine J_dcmp Z.1 dX4_isInfinite_12 ?_
    refine J_if_ge Z.1 20 dX4_isInfinite_13 (by decide) (fun c2 => ?_) (fun c2 => ?_)
    · rw [if_pos c2] at hf
      refine J_iconst Z.1 (v := 0) (by decide) dX4_isInfinite_20 ?_
      cases hf
      exact J_zret Z.1 Z.2.2.2.2.2 (z_n (Or.inl rfl)) dX4_isInfinite_21
    · rw [if_neg c2] at hf
      refine J_lv [] rfl ?_
      exact pX4_isInfinite_b16_ok Z hK   hf
theorem pX4_isInfinite_z (p0 : UInt64) : is01 (pX4_isInfinite p0) := by
  unfold pX4_isInfinite
  simp only [pX4_isInfinite_b16]
  (try split) <;> (try split) <;> (try split) <;> (try split) <;> (try split) <;> (try split) <;> (try split) <;> (try split) <;> first | exact Or.inl rfl | exact Or.inr rfl
theorem dX4_isMinusZero_0 : decode cX4_isMinusZero 0 = .ok (.dload_n 0, 1) := by decide +kernel
theorem dX4_isMinusZero_1 : decode cX4_isMinusZero 1 = .ok (.dconst 0, 1) := by decide +kernel
theorem dX4_isMinusZero_2 : decode cX4_isMinusZero 2 = .ok (.dcmp .l, 1) := by decide +kernel
theorem dX4_isMinusZero_3 : decode cX4_isMinusZero 3 = .ok (.ifCond .ne 15, 3) := by decide +kernel
theorem dX4_isMinusZero_6 : decode cX4_isMinusZero 6 = .ok (.dconst 1, 1) := by decide +kernel
theorem dX4_isMinusZero_7 : decode cX4_isMinusZero 7 = .ok (.dload_n 0, 1) := by decide +kernel
theorem dX4_isMinusZero_8 : decode cX4_isMinusZero 8 = .ok (.ddiv, 1) := by decide +kernel
theorem dX4_isMinusZero_9 : decode cX4_isMinusZero 9 = .ok (.dconst 0, 1) := by decide +kernel
theorem dX4_isMinusZero_10 : decode cX4_isMinusZero 10 = .ok (.dcmp .g, 1) := by decide +kernel
theorem dX4_isMinusZero_11 : decode cX4_isMinusZero 11 = .ok (.ifCond .ge 7, 3) := by decide +kernel
theorem dX4_isMinusZero_14 : decode cX4_isMinusZero 14 = .ok (.iconst 1, 1) := by decide +kernel
theorem dX4_isMinusZero_15 : decode cX4_isMinusZero 15 = .ok (.goto 4, 3) := by decide +kernel
theorem dX4_isMinusZero_18 : decode cX4_isMinusZero 18 = .ok (.iconst 0, 1) := by decide +kernel
theorem dX4_isMinusZero_19 : decode cX4_isMinusZero 19 = .ok (.ireturn, 1) := by decide +kernel
def pX4_isMinusZero (p0 : UInt64) : Int32 := if (Op.cmpValue (FP.dcmp p0 0) .l) = 0 then if 0 ≤ (Op.cmpValue (FP.dcmp (fdiv 4607182418800017408 p0) 0) .g) then 0 else 1 else 0
set_option maxRecDepth 10000 in
set_option maxHeartbeats 4000000 in
theorem pX4_isMinusZero_ok (G : Gx) (dk : Nat) (hK : 0 ≤ dk) (g : MT) (h0 : CT) (p0 : UInt64) : Ctr G dk yX4_isMinusZero cX4_isMinusZero 2 (some .boolean) [.double p0] g h0 (some (.int (pX4_isMinusZero p0))) g h0 := by
  obtain ⟨r0, hf⟩ : ∃ z, pX4_isMinusZero p0 = z := ⟨_, rfl⟩
  rw [hf]
  refine Ctr.ofZ (lv := [(0, .double p0)]) (by decide +kernel) (by simp [cat_i, cat_l, cat_d, cat_rf]) rfl fun X Z => ?_
  unfold pX4_isMinusZero at hf
  refine J_dload_n Z.1 0 dX4_isMinusZero_0 rfl rfl ?_
  refine J_dconst0 Z.1 dX4_isMinusZero_1 ?_
  refine J_dcmp Z.1 dX4_isMinusZero_2 ?_
  refine J_if_ne Z.1 18 dX4_isMinusZero_3 (by decide) (fun c1 => ?_) (fun c1 => ?_)
  · rw [if_neg c1] at hf
    refine J_iconst Z.1 (v := 0) (by decide) dX4_isMinusZero_18 ?_
    cases hf
    exact J_zret Z.1 Z.2.2.2.2.2 (z_n (Or.inl rfl)) dX4_isMinusZero_19
  · rw [if_pos c1] at hf
    refine J_dconst1 Z.1 dX4_isMinusZero_6 ?_
    refine J_dload_n Z.1 0 dX4_isMinusZero_7 rfl rfl ?_
    refine J_ddiv Z.1 dX4_isMinusZero_8 ?_
    refine J_dconst0 Z.1 dX4_isMinusZero_9 ?_
    refine J_dcmp Z.1 dX4_isMinusZero_10 ?_
    refine J_if_ge Z.1 18 dX4_isMinusZero_11 (by decide) (fun c2 => ?_) (fun c2 => ?_)
    · rw [if_pos c2] at hf
      refine J_iconst Z.1 (v := 0) (by decide) dX4_isMinusZero_18 ?_
      cases hf
      exact J_zret Z.1 Z.2.2.2.2.2 (z_n (Or.inl rfl)) dX4_isMinusZero_19
    · rw [if_neg c2] at hf
      refine J_iconst Z.1 (v := 1) (by decide) dX4_isMinusZero_14 ?_
      refine J_goto Z.1 19 dX4_isMinusZero_15 (by decide) ?_
      cases hf
      exact J_zret Z.1 Z.2.2.2.2.2 (z_n (Or.inr rfl)) dX4_isMinusZero_19
theorem pX4_isMinusZero_z (p0 : UInt64) : is01 (pX4_isMinusZero p0) := by
  unfold pX4_isMinusZero
  (try split) <;> (try split) <;> (try split) <;> (try split) <;> (try split) <;> (try split) <;> (try split) <;> (try split) <;> first | exact Or.inl rfl | exact Or.inr rfl
theorem dX4_takesOdd_0 : decode cX4_takesOdd 0 = .ok (.aload_n 0, 1) := by decide +kernel
theorem dX4_takesOdd_1 : decode cX4_takesOdd 1 = .ok (.getfield 13, 3) := by decide +kernel
theorem dX4_takesOdd_4 : decode cX4_takesOdd 4 = .ok (.ifCond .ne 10, 3) := by decide +kernel
theorem dX4_takesOdd_7 : decode cX4_takesOdd 7 = .ok (.aload_n 1, 1) := by decide +kernel
theorem dX4_takesOdd_8 : decode cX4_takesOdd 8 = .ok (.getfield 13, 3) := by decide +kernel
theorem dX4_takesOdd_11 : decode cX4_takesOdd 11 = .ok (.ifCond .eq 13, 3) := by decide +kernel
theorem dX4_takesOdd_14 : decode cX4_takesOdd 14 = .ok (.aload_n 0, 1) := by decide +kernel
theorem dX4_takesOdd_15 : decode cX4_takesOdd 15 = .ok (.dconst 0, 1) := by decide +kernel
theorem dX4_takesOdd_16 : decode cX4_takesOdd 16 = .ok (.putfield 7, 3) := by decide +kernel
theorem dX4_takesOdd_19 : decode cX4_takesOdd 19 = .ok (.aload_n 0, 1) := by decide +kernel
theorem dX4_takesOdd_20 : decode cX4_takesOdd 20 = .ok (.iconst 1, 1) := by decide +kernel
theorem dX4_takesOdd_21 : decode cX4_takesOdd 21 = .ok (.putfield 13, 3) := by decide +kernel
theorem dX4_takesOdd_24 : decode cX4_takesOdd 24 = .ok (.aload_n 0, 1) := by decide +kernel
theorem dX4_takesOdd_25 : decode cX4_takesOdd 25 = .ok (.getfield 13, 3) := by decide +kernel
theorem dX4_takesOdd_28 : decode cX4_takesOdd 28 = .ok (.ireturn, 1) := by decide +kernel
def pX4_takesOdd_b14 (g : MT) (this : Nat) (p1 : Nat) (h : CT) : Option ((Int32) × CT) := lt (sD h this 0 0) fun h1 => (lt (sI h1 this 1 1) fun h2 => (bz (hI h2 this 1) (some ((hI h2 this 1), h2))))
set_option maxRecDepth 10000 in
set_option maxHeartbeats 4000000 in
theorem pX4_takesOdd_b14_ok {X : Cx} {G : Gx} {dk : Nat} {g : MT} {r0 : Int32} {h0 : CT} {this : Nat} {p1 : Nat} (Z : Zx X G cX4_takesOdd RX4 2 dk (some .boolean) (some (.int r0)) g h0) (hK : 0 ≤ dk) (t0 : gT g this = 4) (h : CT) (hf : pX4_takesOdd_b14 g this p1 h = some (r0, h0)) : J X g h 14 [(0, va_rf (some this))] [] := by
  unfold pX4_takesOdd_b14 at hf
  refine J_aload_n Z.1 0 dX4_takesOdd_14 rfl rfl ?_
  refine J_dconst0 Z.1 dX4_takesOdd_15 ?_
  refine J_putD Z.1 dX4_takesOdd_16 fl_X4_7 (fun q => by cases q) t0 rfl ?_
  refine J_th (fun h1 eh1 => ?_)
  replace hf := lt_i hf h1 eh1
  refine J_aload_n Z.1 0 dX4_takesOdd_19 rfl rfl ?_
  refine J_iconst Z.1 (v := 1) (by decide) dX4_takesOdd_20 ?_
  refine J_putI Z.1 dX4_takesOdd_21 fl_X4_13 (fun q => by cases q) t0 (z_n (Or.inr rfl)) (z_f (Or.inr rfl)) (congrArg Value.int (hI_s _ _ _ _)) ?_
  refine J_th (fun h2 eh2 => ?_)
  replace hf := lt_i hf h2 eh2
  refine J_aload_n Z.1 0 dX4_takesOdd_24 rfl rfl ?_
  refine J_get (v := .int (hI h2 this 1)) Z.1 dX4_takesOdd_25 fl_X4_13 t0 rfl ?_
  replace hf := bz_i hf
  obtain ⟨z3, hf⟩ := hf
  cases hf
  exact J_zret Z.1 Z.2.2.2.2.2 (z_n z3) dX4_takesOdd_28
def pX4_takesOdd (g : MT) (h : CT) (this : Nat) (p1 : Nat) : Option ((Int32) × CT) := tg g this 4 (if (hI h this 1) = 0 then tg g p1 4 (if (hI h p1 1) = 0 then bz (hI h this 1) (some ((hI h this 1), h)) else pX4_takesOdd_b14 g this p1  h) else pX4_takesOdd_b14 g this p1  h)
set_option maxRecDepth 10000 in
set_option maxHeartbeats 4000000 in
theorem pX4_takesOdd_ok (G : Gx) (dk : Nat) (hK : 0 ≤ dk) {g : MT} {h h0 : CT} {this : Nat} {p1 : Nat} {r0 : Int32} (hf : pX4_takesOdd g h this p1 = some (r0, h0)) : Ctr G dk yX4_takesOdd cX4_takesOdd 2 (some .boolean) [va_rf (some this), va_rf (some p1)] g h (some (.int r0)) g h0 := by
  refine Ctr.ofZ (lv := [(0, va_rf (some this)), (1, va_rf (some p1))]) (by decide +kernel) (by simp [cat_i, cat_l, cat_d, cat_rf]) rfl fun X Z => ?_
  unfold pX4_takesOdd at hf
  replace hf := tg_i hf
  obtain ⟨t0, hf⟩ := hf
  refine J_aload_n Z.1 0 dX4_takesOdd_0 rfl rfl ?_
  refine J_get (v := .int (hI h this 1)) Z.1 dX4_takesOdd_1 fl_X4_13 t0 rfl ?_
  refine J_if_ne Z.1 14 dX4_takesOdd_4 (by decide) (fun c1 => ?_) (fun c1 => ?_)
  · rw [if_neg c1] at hf
    refine J_lv [0] rfl ?_
    exact pX4_takesOdd_b14_ok Z hK t0  _ hf
  · rw [if_pos c1] at hf
    refine J_aload_n Z.1 1 dX4_takesOdd_7 rfl rfl ?_
    replace hf := tg_i hf
    obtain ⟨t2, hf⟩ := hf
    refine J_get (v := .int (hI h p1 1)) Z.1 dX4_takesOdd_8 fl_X4_13 t2 rfl ?_
    refine J_if_eq Z.1 24 dX4_takesOdd_11 (by decide) (fun c3 => ?_) (fun c3 => ?_)
    · rw [if_pos c3] at hf
      refine J_aload_n Z.1 0 dX4_takesOdd_24 rfl rfl ?_
      refine J_get (v := .int (hI h this 1)) Z.1 dX4_takesOdd_25 fl_X4_13 t0 rfl ?_
      replace hf := bz_i hf
      obtain ⟨z4, hf⟩ := hf
      cases hf
      exact J_zret Z.1 Z.2.2.2.2.2 (z_n z4) dX4_takesOdd_28
    · rw [if_neg c3] at hf
      refine J_lv [0] rfl ?_
      exact pX4_takesOdd_b14_ok Z hK t0  _ hf
theorem dX4_plus_0 : decode cX4_plus 0 = .ok (.aload_n 0, 1) := by decide +kernel
theorem dX4_plus_1 : decode cX4_plus 1 = .ok (.aload_n 1, 1) := by decide +kernel
theorem dX4_plus_2 : decode cX4_plus 2 = .ok (.invokevirtual 41, 3) := by decide +kernel
theorem dX4_plus_5 : decode cX4_plus 5 = .ok (.ifCond .eq 4, 3) := by decide +kernel
theorem dX4_plus_8 : decode cX4_plus 8 = .ok (.return_, 1) := by decide +kernel
theorem dX4_plus_9 : decode cX4_plus 9 = .ok (.aload_n 0, 1) := by decide +kernel
theorem dX4_plus_10 : decode cX4_plus 10 = .ok (.getfield 7, 3) := by decide +kernel
theorem dX4_plus_13 : decode cX4_plus 13 = .ok (.invokestatic 34, 3) := by decide +kernel
theorem dX4_plus_16 : decode cX4_plus 16 = .ok (.ifCond .eq 23, 3) := by decide +kernel
theorem dX4_plus_19 : decode cX4_plus 19 = .ok (.aload_n 0, 1) := by decide +kernel
theorem dX4_plus_20 : decode cX4_plus 20 = .ok (.getfield 7, 3) := by decide +kernel
theorem dX4_plus_23 : decode cX4_plus 23 = .ok (.aload_n 1, 1) := by decide +kernel
theorem dX4_plus_24 : decode cX4_plus 24 = .ok (.getfield 7, 3) := by decide +kernel
theorem dX4_plus_27 : decode cX4_plus 27 = .ok (.dneg, 1) := by decide +kernel
theorem dX4_plus_28 : decode cX4_plus 28 = .ok (.dcmp .l, 1) := by decide +kernel
theorem dX4_plus_29 : decode cX4_plus 29 = .ok (.ifCond .ne 10, 3) := by decide +kernel
theorem dX4_plus_32 : decode cX4_plus 32 = .ok (.aload_n 0, 1) := by decide +kernel
theorem dX4_plus_33 : decode cX4_plus 33 = .ok (.invokevirtual 27, 3) := by decide +kernel
theorem dX4_plus_36 : decode cX4_plus 36 = .ok (.goto 16, 3) := by decide +kernel
theorem dX4_plus_39 : decode cX4_plus 39 = .ok (.aload_n 0, 1) := by decide +kernel
theorem dX4_plus_40 : decode cX4_plus 40 = .ok (.aload_n 0, 1) := by decide +kernel
theorem dX4_plus_41 : decode cX4_plus 41 = .ok (.getfield 7, 3) := by decide +kernel
theorem dX4_plus_44 : decode cX4_plus 44 = .ok (.aload_n 1, 1) := by decide +kernel
theorem dX4_plus_45 : decode cX4_plus 45 = .ok (.getfield 7, 3) := by decide +kernel
theorem dX4_plus_48 : decode cX4_plus 48 = .ok (.dadd, 1) := by decide +kernel
theorem dX4_plus_49 : decode cX4_plus 49 = .ok (.putfield 7, 3) := by decide +kernel
theorem dX4_plus_52 : decode cX4_plus 52 = .ok (.return_, 1) := by decide +kernel
def pX4_plus_b39 (g : MT) (this : Nat) (p1 : Nat) (h : CT) : Option CT := tg g p1 4 (lt (sD h this 0 (fadd (hD h this 0) (hD h p1 0))) fun h2 => (some h2))
set_option maxRecDepth 10000 in
set_option maxHeartbeats 4000000 in
theorem pX4_plus_b39_ok {X : Cx} {G : Gx} {dk : Nat} {g : MT} {h0 : CT} {this : Nat} {p1 : Nat} (Z : Zx X G cX4_plus RX4 2 dk none none g h0) (hK : 1 ≤ dk) (t0 : gT g this = 4) (h : CT) (hf : pX4_plus_b39 g this p1 h = some h0) : J X g h 39 [(0, va_rf (some this)), (1, va_rf (some p1))] [] := by
  unfold pX4_plus_b39 at hf
  refine J_aload_n Z.1 0 dX4_plus_39 rfl rfl ?_
  refine J_aload_n Z.1 0 dX4_plus_40 rfl rfl ?_
  refine J_get (v := .double (hD h this 0)) Z.1 dX4_plus_41 fl_X4_7 t0 rfl ?_
  refine J_aload_n Z.1 1 dX4_plus_44 rfl rfl ?_
  replace hf := tg_i hf
  obtain ⟨t1, hf⟩ := hf
  refine J_get (v := .double (hD h p1 0)) Z.1 dX4_plus_45 fl_X4_7 t1 rfl ?_
  refine J_dadd Z.1 dX4_plus_48 ?_
  refine J_putD Z.1 dX4_plus_49 fl_X4_7 (fun q => by cases q) t0 rfl ?_
  refine J_th (fun h2 eh2 => ?_)
  replace hf := lt_i hf h2 eh2
  cases hf
  exact J_vret Z.1 Z.2.2.2.2.2 dX4_plus_52
def pX4_plus (g : MT) (h : CT) (this : Nat) (p1 : Nat) : Option CT := tg g this 4 (bd2 (pX4_takesOdd g h this p1) fun x3 h1 => (if x3 = 0 then if (pX4_isInfinite (hD h1 this 0)) = 0 then pX4_plus_b39 g this p1  h1 else tg g p1 4 (if (Op.cmpValue (FP.dcmp (hD h1 this 0) (fneg (hD h1 p1 0))) .l) = 0 then bd (pX4_setOdd g h1 this) fun h8 => (some h8) else pX4_plus_b39 g this p1  h1) else some h1))
set_option maxRecDepth 10000 in
set_option maxHeartbeats 4000000 in
theorem pX4_plus_ok (G : Gx) (dk : Nat) (hK : 1 ≤ dk) {g : MT} {h h0 : CT} {this : Nat} {p1 : Nat} (hf : pX4_plus g h this p1 = some h0) : Ctr G dk yX4_plus cX4_plus 2 none [va_rf (some this), va_rf (some p1)] g h none g h0 := by
  refine Ctr.ofZ (lv := [(0, va_rf (some this)), (1, va_rf (some p1))]) (by decide +kernel) (by simp [cat_i, cat_l, cat_d, cat_rf]) rfl fun X Z => ?_
  unfold pX4_plus at hf
  replace hf := tg_i hf
  obtain ⟨t0, hf⟩ := hf
  refine J_aload_n Z.1 0 dX4_plus_0 rfl rfl ?_
  refine J_aload_n Z.1 1 dX4_plus_1 rfl rfl ?_
  replace hf := bd2_i hf
  obtain ⟨x3, h1, q2, hf⟩ := hf
  refine J_callV (ci := 3) (as := [va_rf (some p1)]) (rest := []) (sy := [.int x3]) Z.1 dX4_plus_2 cw_X4_41 (pX4_takesOdd_ok G (dk - 1) (by omega) q2) rfl rfl t0 (zG Z) rfl (by decide) (zF Z (by omega)) (zO Z (by omega) (by decide)) (zM _) Z.2.1 Z.2.1 rfl rfl ?_
  refine J_if_eq Z.1 9 dX4_plus_5 (by decide) (fun c4 => ?_) (fun c4 => ?_)
  · rw [if_pos c4] at hf
    refine J_aload_n Z.1 0 dX4_plus_9 rfl rfl ?_
    refine J_get (v := .double (hD h1 this 0)) Z.1 dX4_plus_10 fl_X4_7 t0 rfl ?_
    refine J_callS (as := [.double (hD h1 this 0)]) (rest := []) (sy := [.int (pX4_isInfinite (hD h1 this 0))]) Z.1 dX4_plus_13 cw_X4_34 (pX4_isInfinite_ok G (dk - 1) (by omega) g h1 (hD h1 this 0)) (zG Z) rfl (by decide) (zF Z (by omega)) (zO Z (by omega) (by decide)) (zM _) Z.2.1 Z.2.1 rfl rfl ?_
    refine J_if_eq Z.1 39 dX4_plus_16 (by decide) (fun c5 => ?_) (fun c5 => ?_)
    · rw [if_pos c5] at hf
      exact pX4_plus_b39_ok Z hK t0  _ hf
    · rw [if_neg c5] at hf
      refine J_aload_n Z.1 0 dX4_plus_19 rfl rfl ?_
      refine J_get (v := .double (hD h1 this 0)) Z.1 dX4_plus_20 fl_X4_7 t0 rfl ?_
      refine J_aload_n Z.1 1 dX4_plus_23 rfl rfl ?_
      replace hf := tg_i hf
      obtain ⟨t6, hf⟩ := hf
      refine J_get (v := .double (hD h1 p1 0)) Z.1 dX4_plus_24 fl_X4_7 t6 rfl ?_
      refine J_dneg Z.1 dX4_plus_27 ?_
      refine J_dcmp Z.1 dX4_plus_28 ?_
      refine J_if_ne Z.1 39 dX4_plus_29 (by decide) (fun c7 => ?_) (fun c7 => ?_)
      · rw [if_neg c7] at hf
        exact pX4_plus_b39_ok Z hK t0  _ hf
      · rw [if_pos c7] at hf
        refine J_aload_n Z.1 0 dX4_plus_32 rfl rfl ?_
        replace hf := bd_i hf
        obtain ⟨h8, q9, hf⟩ := hf
        refine J_callV (ci := 3) (as := []) (rest := []) (sy := []) Z.1 dX4_plus_33 cw_X4_27 (pX4_setOdd_ok G (dk - 1) (by omega) q9) rfl rfl t0 (zG Z) rfl (by decide) (zF Z (by omega)) (zO Z (by omega) (by decide)) (zM _) Z.2.1 Z.2.1 rfl rfl ?_
        refine J_goto Z.1 52 dX4_plus_36 (by decide) ?_
        cases hf
        exact J_vret Z.1 Z.2.2.2.2.2 dX4_plus_52
  · rw [if_neg c4] at hf
    cases hf
    exact J_vret Z.1 Z.2.2.2.2.2 dX4_plus_8
theorem dX4_minus_0 : decode cX4_minus 0 = .ok (.aload_n 0, 1) := by decide +kernel
theorem dX4_minus_1 : decode cX4_minus 1 = .ok (.aload_n 1, 1) := by decide +kernel
theorem dX4_minus_2 : decode cX4_minus 2 = .ok (.invokevirtual 41, 3) := by decide +kernel
theorem dX4_minus_5 : decode cX4_minus 5 = .ok (.ifCond .eq 4, 3) := by decide +kernel
theorem dX4_minus_8 : decode cX4_minus 8 = .ok (.return_, 1) := by decide +kernel
theorem dX4_minus_9 : decode cX4_minus 9 = .ok (.aload_n 0, 1) := by decide +kernel
theorem dX4_minus_10 : decode cX4_minus 10 = .ok (.getfield 7, 3) := by decide +kernel
theorem dX4_minus_13 : decode cX4_minus 13 = .ok (.invokestatic 34, 3) := by decide +kernel
theorem dX4_minus_16 : decode cX4_minus 16 = .ok (.ifCond .eq 22, 3) := by decide +kernel
theorem dX4_minus_19 : decode cX4_minus 19 = .ok (.aload_n 0, 1) := by decide +kernel
theorem dX4_minus_20 : decode cX4_minus 20 = .ok (.getfield 7, 3) := by decide +kernel
theorem dX4_minus_23 : decode cX4_minus 23 = .ok (.aload_n 1, 1) := by decide +kernel
theorem dX4_minus_24 : decode cX4_minus 24 = .ok (.getfield 7, 3) := by decide +kernel
theorem dX4_minus_27 : decode cX4_minus 27 = .ok (.dcmp .l, 1) := by decide +kernel
theorem dX4_minus_28 : decode cX4_minus 28 = .ok (.ifCond .ne 10, 3) := by decide +kernel
theorem dX4_minus_31 : decode cX4_minus 31 = .ok (.aload_n 0, 1) := by decide +kernel
theorem dX4_minus_32 : decode cX4_minus 32 = .ok (.invokevirtual 27, 3) := by decide +kernel
theorem dX4_minus_35 : decode cX4_minus 35 = .ok (.goto 16, 3) := by decide +kernel
theorem dX4_minus_38 : decode cX4_minus 38 = .ok (.aload_n 0, 1) := by decide +kernel
theorem dX4_minus_39 : decode cX4_minus 39 = .ok (.aload_n 0, 1) := by decide +kernel
theorem dX4_minus_40 : decode cX4_minus 40 = .ok (.getfield 7, 3) := by decide +kernel
theorem dX4_minus_43 : decode cX4_minus 43 = .ok (.aload_n 1, 1) := by decide +kernel
theorem dX4_minus_44 : decode cX4_minus 44 = .ok (.getfield 7, 3) := by decide +kernel
theorem dX4_minus_47 : decode cX4_minus 47 = .ok (.dsub, 1) := by decide +kernel
theorem dX4_minus_48 : decode cX4_minus 48 = .ok (.putfield 7, 3) := by decide +kernel
theorem dX4_minus_51 : decode cX4_minus 51 = .ok (.return_, 1) := by decide +kernel
def pX4_minus_b38 (g : MT) (this : Nat) (p1 : Nat) (h : CT) : Option CT := tg g p1 4 (lt (sD h this 0 (fsub (hD h this 0) (hD h p1 0))) fun h2 => (some h2))
set_option maxRecDepth 10000 in
set_option maxHeartbeats 4000000 in
theorem pX4_minus_b38_ok {X : Cx} {G : Gx} {dk : Nat} {g : MT} {h0 : CT} {this : Nat} {p1 : Nat} (Z : Zx X G cX4_minus RX4 2 dk none none g h0) (hK : 1 ≤ dk) (t0 : gT g this = 4) (h : CT) (hf : pX4_minus_b38 g this p1 h = some h0) : J X g h 38 [(0, va_rf (some this)), (1, va_rf (some p1))] [] := by
  unfold pX4_minus_b38 at hf
  refine J_aload_n Z.1 0 dX4_minus_38 rfl rfl ?_
  refine J_aload_n Z.1 0 dX4_minus_39 rfl rfl ?_
  refine J_get (v := .double (hD h this 0)) Z.1 dX4_minus_40 fl_X4_7 t0 rfl ?_
  refine J_aload_n Z.1 1 dX4_minus_43 rfl rfl ?_
  replace hf := tg_i hf
  obtain ⟨t1, hf⟩ := hf
  refine J_get (v := .double (hD h p1 0)) Z.1 dX4_minus_44 fl_X4_7 t1 rfl ?_
  refine J_dsub Z.1 dX4_minus_47 ?_
  refine J_putD Z.1 dX4_minus_48 fl_X4_7 (fun q => by cases q) t0 rfl ?_
  refine J_th (fun h2 eh2 => ?_)
  replace hf := lt_i hf h2 eh2
  cases hf
  exact J_vret Z.1 Z.2.2.2.2.2 dX4_minus_51
def pX4_minus (g : MT) (h : CT) (this : Nat) (p1 : Nat) : Option CT := tg g this 4 (bd2 (pX4_takesOdd g h this p1) fun x3 h1 => (if x3 = 0 then if (pX4_isInfinite (hD h1 this 0)) = 0 then pX4_minus_b38 g this p1  h1 else tg g p1 4 (if (Op.cmpValue (FP.dcmp (hD h1 this 0) (hD h1 p1 0)) .l) = 0 then bd (pX4_setOdd g h1 this) fun h8 => (some h8) else pX4_minus_b38 g this p1  h1) else some h1))
set_option maxRecDepth 10000 in
set_option maxHeartbeats 4000000 in
theorem pX4_minus_ok (G : Gx) (dk : Nat) (hK : 1 ≤ dk) {g : MT} {h h0 : CT} {this : Nat} {p1 : Nat} (hf : pX4_minus g h this p1 = some h0) : Ctr G dk yX4_minus cX4_minus 2 none [va_rf (some this), va_rf (some p1)] g h none g h0 := by
  refine Ctr.ofZ (lv := [(0, va_rf (some this)), (1, va_rf (some p1))]) (by decide +kernel) (by simp [cat_i, cat_l, cat_d, cat_rf]) rfl fun X Z => ?_
  unfold pX4_minus at hf
  replace hf := tg_i hf
  obtain ⟨t0, hf⟩ := hf
  refine J_aload_n Z.1 0 dX4_minus_0 rfl rfl ?_
  refine J_aload_n Z.1 1 dX4_minus_1 rfl rfl ?_
  replace hf := bd2_i hf
  obtain ⟨x3, h1, q2, hf⟩ := hf
  refine J_callV (ci := 3) (as := [va_rf (some p1)]) (rest := []) (sy := [.int x3]) Z.1 dX4_minus_2 cw_X4_41 (pX4_takesOdd_ok G (dk - 1) (by omega) q2) rfl rfl t0 (zG Z) rfl (by decide) (zF Z (by omega)) (zO Z (by omega) (by decide)) (zM _) Z.2.1 Z.2.1 rfl rfl ?_
  refine J_if_eq Z.1 9 dX4_minus_5 (by decide) (fun c4 => ?_) (fun c4 => ?_)
  · rw [if_pos c4] at hf
    refine J_aload_n Z.1 0 dX4_minus_9 rfl rfl ?_
    refine J_get (v := .double (hD h1 this 0)) Z.1 dX4_minus_10 fl_X4_7 t0 rfl ?_
    refine J_callS (as := [.double (hD h1 this 0)]) (rest := []) (sy := [.int (pX4_isInfinite (hD h1 this 0))]) Z.1 dX4_minus_13 cw_X4_34 (pX4_isInfinite_ok G (dk - 1) (by omega) g h1 (hD h1 this 0)) (zG Z) rfl (by decide) (zF Z (by omega)) (zO Z (by omega) (by decide)) (zM _) Z.2.1 Z.2.1 rfl rfl ?_
    refine J_if_eq Z.1 38 dX4_minus_16 (by decide) (fun c5 => ?_) (fun c5 => ?_)
    · rw [if_pos c5] at hf
      exact pX4_minus_b38_ok Z hK t0  _ hf
    · rw [if_neg c5] at hf
      refine J_aload_n Z.1 0 dX4_minus_19 rfl rfl ?_
      refine J_get (v := .double (hD h1 this 0)) Z.1 dX4_minus_20 fl_X4_7 t0 rfl ?_
      refine J_aload_n Z.1 1 dX4_minus_23 rfl rfl ?_
      replace hf := tg_i hf
      obtain ⟨t6, hf⟩ := hf
      refine J_get (v := .double (hD h1 p1 0)) Z.1 dX4_minus_24 fl_X4_7 t6 rfl ?_
      refine J_dcmp Z.1 dX4_minus_27 ?_
      refine J_if_ne Z.1 38 dX4_minus_28 (by decide) (fun c7 => ?_) (fun c7 => ?_)
      · rw [if_neg c7] at hf
        exact pX4_minus_b38_ok Z hK t0  _ hf
      · rw [if_pos c7] at hf
        refine J_aload_n Z.1 0 dX4_minus_31 rfl rfl ?_
        replace hf := bd_i hf
        obtain ⟨h8, q9, hf⟩ := hf
        refine J_callV (ci := 3) (as := []) (rest := []) (sy := []) Z.1 dX4_minus_32 cw_X4_27 (pX4_setOdd_ok G (dk - 1) (by omega) q9) rfl rfl t0 (zG Z) rfl (by decide) (zF Z (by omega)) (zO Z (by omega) (by decide)) (zM _) Z.2.1 Z.2.1 rfl rfl ?_
        refine J_goto Z.1 51 dX4_minus_35 (by decide) ?_
        cases hf
        exact J_vret Z.1 Z.2.2.2.2.2 dX4_minus_51
  · rw [if_neg c4] at hf
    cases hf
    exact J_vret Z.1 Z.2.2.2.2.2 dX4_minus_8
theorem dX4_times_0 : decode cX4_times 0 = .ok (.aload_n 0, 1) := by decide +kernel
theorem dX4_times_1 : decode cX4_times 1 = .ok (.aload_n 1, 1) := by decide +kernel
theorem dX4_times_2 : decode cX4_times 2 = .ok (.invokevirtual 41, 3) := by decide +kernel
theorem dX4_times_5 : decode cX4_times 5 = .ok (.ifCond .eq 4, 3) := by decide +kernel
theorem dX4_times_8 : decode cX4_times 8 = .ok (.return_, 1) := by decide +kernel
theorem dX4_times_9 : decode cX4_times 9 = .ok (.aload_n 0, 1) := by decide +kernel
theorem dX4_times_10 : decode cX4_times 10 = .ok (.getfield 7, 3) := by decide +kernel
theorem dX4_times_13 : decode cX4_times 13 = .ok (.dconst 0, 1) := by decide +kernel
theorem dX4_times_14 : decode cX4_times 14 = .ok (.dcmp .l, 1) := by decide +kernel
theorem dX4_times_15 : decode cX4_times 15 = .ok (.ifCond .ne 13, 3) := by decide +kernel
theorem dX4_times_18 : decode cX4_times 18 = .ok (.aload_n 1, 1) := by decide +kernel
theorem dX4_times_19 : decode cX4_times 19 = .ok (.getfield 7, 3) := by decide +kernel
theorem dX4_times_22 : decode cX4_times 22 = .ok (.invokestatic 34, 3) := by decide +kernel
theorem dX4_times_25 : decode cX4_times 25 = .ok (.ifCond .ne 22, 3) := by decide +kernel
theorem dX4_times_28 : decode cX4_times 28 = .ok (.aload_n 0, 1) := by decide +kernel
theorem dX4_times_29 : decode cX4_times 29 = .ok (.getfield 7, 3) := by decide +kernel
theorem dX4_times_32 : decode cX4_times 32 = .ok (.invokestatic 34, 3) := by decide +kernel
theorem dX4_times_35 : decode cX4_times 35 = .ok (.ifCond .eq 19, 3) := by decide +kernel
theorem dX4_times_38 : decode cX4_times 38 = .ok (.aload_n 1, 1) := by decide +kernel
theorem dX4_times_39 : decode cX4_times 39 = .ok (.getfield 7, 3) := by decide +kernel
theorem dX4_times_42 : decode cX4_times 42 = .ok (.dconst 0, 1) := by decide +kernel
theorem dX4_times_43 : decode cX4_times 43 = .ok (.dcmp .l, 1) := by decide +kernel
theorem dX4_times_44 : decode cX4_times 44 = .ok (.ifCond .ne 10, 3) := by decide +kernel
theorem dX4_times_47 : decode cX4_times 47 = .ok (.aload_n 0, 1) := by decide +kernel
theorem dX4_times_48 : decode cX4_times 48 = .ok (.invokevirtual 27, 3) := by decide +kernel
theorem dX4_times_51 : decode cX4_times 51 = .ok (.goto 16, 3) := by decide +kernel
theorem dX4_times_54 : decode cX4_times 54 = .ok (.aload_n 0, 1) := by decide +kernel
theorem dX4_times_55 : decode cX4_times 55 = .ok (.aload_n 0, 1) := by decide +kernel
theorem dX4_times_56 : decode cX4_times 56 = .ok (.getfield 7, 3) := by decide +kernel
theorem dX4_times_59 : decode cX4_times 59 = .ok (.aload_n 1, 1) := by decide +kernel
theorem dX4_times_60 : decode cX4_times 60 = .ok (.getfield 7, 3) := by decide +kernel
theorem dX4_times_63 : decode cX4_times 63 = .ok (.dmul, 1) := by decide +kernel
theorem dX4_times_64 : decode cX4_times 64 = .ok (.putfield 7, 3) := by decide +kernel
theorem dX4_times_67 : decode cX4_times 67 = .ok (.return_, 1) := by decide +kernel
def pX4_times_b54 (g : MT) (this : Nat) (p1 : Nat) (h : CT) : Option CT := tg g p1 4 (lt (sD h this 0 (fmul (hD h this 0) (hD h p1 0))) fun h2 => (some h2))
set_option maxRecDepth 10000 in
set_option maxHeartbeats 4000000 in
theorem pX4_times_b54_ok {X : Cx} {G : Gx} {dk : Nat} {g : MT} {h0 : CT} {this : Nat} {p1 : Nat} (Z : Zx X G cX4_times RX4 2 dk none none g h0) (hK : 1 ≤ dk) (t0 : gT g this = 4) (h : CT) (hf : pX4_times_b54 g this p1 h = some h0) : J X g h 54 [(0, va_rf (some this)), (1, va_rf (some p1))] [] := by
  unfold pX4_times_b54 at hf
  refine J_aload_n Z.1 0 dX4_times_54 rfl rfl ?_
  refine J_aload_n Z.1 0 dX4_times_55 rfl rfl ?_
  refine J_get (v := .double (hD h this 0)) Z.1 dX4_times_56 fl_X4_7 t0 rfl ?_
  refine J_aload_n Z.1 1 dX4_times_59 rfl rfl ?_
  replace hf := tg_i hf
  obtain ⟨t1, hf⟩ := hf
  refine J_get (v := .double (hD h p1 0)) Z.1 dX4_times_60 fl_X4_7 t1 rfl ?_
  refine J_dmul Z.1 dX4_times_63 ?_
  refine J_putD Z.1 dX4_times_64 fl_X4_7 (fun q => by cases q) t0 rfl ?_
  refine J_th (fun h2 eh2 => ?_)
  replace hf := lt_i hf h2 eh2
  cases hf
  exact J_vret Z.1 Z.2.2.2.2.2 dX4_times_67
def pX4_times_b47 (g : MT) (this : Nat) (p1 : Nat) (h : CT) : Option CT := bd (pX4_setOdd g h this) fun h1 => (some h1)
set_option maxRecDepth 10000 in
set_option maxHeartbeats 4000000 in
theorem pX4_times_b47_ok {X : Cx} {G : Gx} {dk : Nat} {g : MT} {h0 : CT} {this : Nat} {p1 : Nat} (Z : Zx X G cX4_times RX4 2 dk none none g h0) (hK : 1 ≤ dk) (t0 : gT g this = 4) (h : CT) (hf : pX4_times_b47 g this p1 h = some h0) : J X g h 47 [(0, va_rf (some this))] [] := by
  unfold pX4_times_b47 at hf
  refine J_aload_n Z.1 0 dX4_times_47 rfl rfl ?_
  replace hf := bd_i hf
  obtain ⟨h1, q2, hf⟩ := hf
  refine J_callV (ci := 3) (as := []) (rest := []) (sy := []) Z.1 dX4_times_48 cw_X4_27 (pX4_setOdd_ok G (dk - 1) (by omega) q2) rfl rfl t0 (zG Z) rfl (by decide) (zF Z (by omega)) (zO Z (by omega) (by decide)) (zM _) Z.2.1 Z.2.1 rfl rfl ?_
  refine J_goto Z.1 67 dX4_times_51 (by decide) ?_
  cases hf
  exact J_vret Z.1 Z.2.2.2.2.2 dX4_times_67
def pX4_times_b28 (g : MT) (this : Nat) (p1 : Nat) (h : CT) : Option CT := if (pX4_isInfinite (hD h this 0)) = 0 then pX4_times_b54 g this p1  h else tg g p1 4 (if (Op.cmpValue (FP.dcmp (hD h p1 0) 0) .l) = 0 then pX4_times_b47 g this p1  h else pX4_times_b54 g this p1  h)
set_option maxRecDepth 10000 in
set_option maxHeartbeats 4000000 in
theorem pX4_times_b28_ok {X : Cx} {G : Gx} {dk : Nat} {g : MT} {h0 : CT} {this : Nat} {p1 : Nat} (Z : Zx X G cX4_times RX4 2 dk none none g h0) (hK : 1 ≤ dk) (t0 : gT g this = 4) (h : CT) (hf : pX4_times_b28 g this p1 h = some h0) : J X g h 28 [(0, va_rf (some this)), (1, va_rf (some p1))] [] := by
  unfold pX4_times_b28 at hf
  refine J_aload_n Z.1 0 dX4_times_28 rfl rfl ?_
  refine J_get (v := .double (hD h this 0)) Z.1 dX4_times_29 fl_X4_7 t0 rfl ?_
  refine J_callS (as := [.double (hD h this 0)]) (rest := []) (sy := [.int (pX4_isInfinite (hD h this 0))]) Z.1 dX4_times_32 cw_X4_34 (pX4_isInfinite_ok G (dk - 1) (by omega) g h (hD h this 0)) (zG Z) rfl (by decide) (zF Z (by omega)) (zO Z (by omega) (by decide)) (zM _) Z.2.1 Z.2.1 rfl rfl ?_
  refine J_if_eq Z.1 54 dX4_times_35 (by decide) (fun c1 => ?_) (fun c1 => ?_)
  · rw [if_pos c1] at hf
    exact pX4_times_b54_ok Z hK t0  _ hf
  · rw [if_neg c1] at hf
    refine J_aload_n Z.1 1 dX4_times_38 rfl rfl ?_
    replace hf := tg_i hf
    obtain ⟨t2, hf⟩ := hf
    refine J_get (v := .double (hD h p1 0)) Z.1 dX4_times_39 fl_X4_7 t2 rfl ?_
    refine J_dconst0 Z.1 dX4_times_42 ?_
    refine J_dcmp Z.1 dX4_times_43 ?_
    refine J_if_ne Z.1 54 dX4_times_44 (by decide) (fun c3 => ?_) (fun c3 => ?_)
    · rw [if_neg c3] at hf
      exact pX4_times_b54_ok Z hK t0  _ hf
    · rw [if_pos c3] at hf
      refine J_lv [0] rfl ?_
      exact pX4_times_b47_ok Z hK t0  _ hf
def pX4_times (g : MT) (h : CT) (this : Nat) (p1 : Nat) : Option CT := tg g this 4 (bd2 (pX4_takesOdd g h this p1) fun x3 h1 => (if x3 = 0 then if (Op.cmpValue (FP.dcmp (hD h1 this 0) 0) .l) = 0 then tg g p1 4 (if (pX4_isInfinite (hD h1 p1 0)) = 0 then pX4_times_b28 g this p1  h1 else pX4_times_b47 g this p1  h1) else pX4_times_b28 g this p1  h1 else some h1))
set_option maxRecDepth 10000 in
set_option maxHeartbeats 4000000 in
theorem pX4_times_ok (G : Gx) (dk : Nat) (hK : 1 ≤ dk) {g : MT} {h h0 : CT} {this : Nat} {p1 : Nat} (hf : pX4_times g h this p1 = some h0) : Ctr G dk yX4_times cX4_times 2 none [va_rf (some this), va_rf (some p1)] g h none g h0 := by
  refine Ctr.ofZ (lv := [(0, va_rf (some this)), (1, va_rf (some p1))]) (by decide +kernel) (by simp [cat_i, cat_l, cat_d, cat_rf]) rfl fun X Z => ?_
  unfold pX4_times at hf
  replace hf := tg_i hf
  obtain ⟨t0, hf⟩ := hf
  refine J_aload_n Z.1 0 dX4_times_0 rfl rfl ?_
  refine J_aload_n Z.1 1 dX4_times_1 rfl rfl ?_
  replace hf := bd2_i hf
  obtain ⟨x3, h1, q2, hf⟩ := hf
  refine J_callV (ci := 3) (as := [va_rf (some p1)]) (rest := []) (sy := [.int x3]) Z.1 dX4_times_2 cw_X4_41 (pX4_takesOdd_ok G (dk - 1) (by omega) q2) rfl rfl t0 (zG Z) rfl (by decide) (zF Z (by omega)) (zO Z (by omega) (by decide)) (zM _) Z.2.1 Z.2.1 rfl rfl ?_
  refine J_if_eq Z.1 9 dX4_times_5 (by decide) (fun c4 => ?_) (fun c4 => ?_)
  · rw [if_pos c4] at hf
    refine J_aload_n Z.1 0 dX4_times_9 rfl rfl ?_
    refine J_get (v := .double (hD h1 this 0)) Z.1 dX4_times_10 fl_X4_7 t0 rfl ?_
    refine J_dconst0 Z.1 dX4_times_13 ?_
    refine J_dcmp Z.1 dX4_times_14 ?_
    refine J_if_ne Z.1 28 dX4_times_15 (by decide) (fun c5 => ?_) (fun c5 => ?_)
    · rw [if_neg c5] at hf
      exact pX4_times_b28_ok Z hK t0  _ hf
    · rw [if_pos c5] at hf
      refine J_aload_n Z.1 1 dX4_times_18 rfl rfl ?_
      replace hf := tg_i hf
      obtain ⟨t6, hf⟩ := hf
      refine J_get (v := .double (hD h1 p1 0)) Z.1 dX4_times_19 fl_X4_7 t6 rfl ?_
      refine J_callS (as := [.double (hD h1 p1 0)]) (rest := []) (sy := [.int (pX4_isInfinite (hD h1 p1 0))]) Z.1 dX4_times_22 cw_X4_34 (pX4_isInfinite_ok G (dk - 1) (by omega) g h1 (hD h1 p1 0)) (zG Z) rfl (by decide) (zF Z (by omega)) (zO Z (by omega) (by decide)) (zM _) Z.2.1 Z.2.1 rfl rfl ?_
      refine J_if_ne Z.1 47 dX4_times_25 (by decide) (fun c7 => ?_) (fun c7 => ?_)
      · rw [if_neg c7] at hf
        refine J_lv [0] rfl ?_
        exact pX4_times_b47_ok Z hK t0  _ hf
      · rw [if_pos c7] at hf
        exact pX4_times_b28_ok Z hK t0  _ hf
  · rw [if_neg c4] at hf
    cases hf
    exact J_vret Z.1 Z.2.2.2.2.2 dX4_times_8
theorem dX4_over_0 : decode cX4_over 0 = .ok (.aload_n 0, 1) := by decide +kernel
theorem dX4_over_1 : decode cX4_over 1 = .ok (.aload_n 1, 1) := by decide +kernel
theorem dX4_over_2 : decode cX4_over 2 = .ok (.invokevirtual 41, 3) := by decide +kernel
theorem dX4_over_5 : decode cX4_over 5 = .ok (.ifCond .eq 4, 3) := by decide +kernel
theorem dX4_over_8 : decode cX4_over 8 = .ok (.return_, 1) := by decide +kernel
theorem dX4_over_9 : decode cX4_over 9 = .ok (.aload_n 0, 1) := by decide +kernel
theorem dX4_over_10 : decode cX4_over 10 = .ok (.getfield 7, 3) := by decide +kernel
theorem dX4_over_13 : decode cX4_over 13 = .ok (.dconst 0, 1) := by decide +kernel
theorem dX4_over_14 : decode cX4_over 14 = .ok (.dcmp .l, 1) := by decide +kernel
theorem dX4_over_15 : decode cX4_over 15 = .ok (.ifCond .ne 12, 3) := by decide +kernel
theorem dX4_over_18 : decode cX4_over 18 = .ok (.aload_n 1, 1) := by decide +kernel
theorem dX4_over_19 : decode cX4_over 19 = .ok (.getfield 7, 3) := by decide +kernel
theorem dX4_over_22 : decode cX4_over 22 = .ok (.dconst 0, 1) := by decide +kernel
theorem dX4_over_23 : decode cX4_over 23 = .ok (.dcmp .l, 1) := by decide +kernel
theorem dX4_over_24 : decode cX4_over 24 = .ok (.ifCond .eq 23, 3) := by decide +kernel
theorem dX4_over_27 : decode cX4_over 27 = .ok (.aload_n 0, 1) := by decide +kernel
theorem dX4_over_28 : decode cX4_over 28 = .ok (.getfield 7, 3) := by decide +kernel
theorem dX4_over_31 : decode cX4_over 31 = .ok (.invokestatic 34, 3) := by decide +kernel
theorem dX4_over_34 : decode cX4_over 34 = .ok (.ifCond .eq 20, 3) := by decide +kernel
theorem dX4_over_37 : decode cX4_over 37 = .ok (.aload_n 1, 1) := by decide +kernel
theorem dX4_over_38 : decode cX4_over 38 = .ok (.getfield 7, 3) := by decide +kernel
theorem dX4_over_41 : decode cX4_over 41 = .ok (.invokestatic 34, 3) := by decide +kernel
theorem dX4_over_44 : decode cX4_over 44 = .ok (.ifCond .eq 10, 3) := by decide +kernel
theorem dX4_over_47 : decode cX4_over 47 = .ok (.aload_n 0, 1) := by decide +kernel
theorem dX4_over_48 : decode cX4_over 48 = .ok (.invokevirtual 27, 3) := by decide +kernel
theorem dX4_over_51 : decode cX4_over 51 = .ok (.goto 16, 3) := by decide +kernel
theorem dX4_over_54 : decode cX4_over 54 = .ok (.aload_n 0, 1) := by decide +kernel
theorem dX4_over_55 : decode cX4_over 55 = .ok (.aload_n 0, 1) := by decide +kernel
theorem dX4_over_56 : decode cX4_over 56 = .ok (.getfield 7, 3) := by decide +kernel
theorem dX4_over_59 : decode cX4_over 59 = .ok (.aload_n 1, 1) := by decide +kernel
theorem dX4_over_60 : decode cX4_over 60 = .ok (.getfield 7, 3) := by decide +kernel
theorem dX4_over_63 : decode cX4_over 63 = .ok (.ddiv, 1) := by decide +kernel
theorem dX4_over_64 : decode cX4_over 64 = .ok (.putfield 7, 3) := by decide +kernel
theorem dX4_over_67 : decode cX4_over 67 = .ok (.return_, 1) := by decide +kernel
def pX4_over_b54 (g : MT) (this : Nat) (p1 : Nat) (h : CT) : Option CT := tg g p1 4 (lt (sD h this 0 (fdiv (hD h this 0) (hD h p1 0))) fun h2 => (some h2))
set_option maxRecDepth 10000 in
set_option maxHeartbeats 4000000 in
theorem pX4_over_b54_ok {X : Cx} {G : Gx} {dk : Nat} {g : MT} {h0 : CT} {this : Nat} {p1 : Nat} (Z : Zx X G cX4_over RX4 2 dk none none g h0) (hK : 1 ≤ dk) (t0 : gT g this = 4) (h : CT) (hf : pX4_over_b54 g this p1 h = some h0) : J X g h 54 [(0, va_rf (some this)), (1, va_rf (some p1))] [] := by
  unfold pX4_over_b54 at hf
  refine J_aload_n Z.1 0 dX4_over_54 rfl rfl ?_
  refine J_aload_n Z.1 0 dX4_over_55 rfl rfl ?_
  refine J_get (v := .double (hD h this 0)) Z.1 dX4_over_56 fl_X4_7 t0 rfl ?_
  refine J_aload_n Z.1 1 dX4_over_59 rfl rfl ?_
  replace hf := tg_i hf
  obtain ⟨t1, hf⟩ := hf
  refine J_get (v := .double (hD h p1 0)) Z.1 dX4_over_60 fl_X4_7 t1 rfl ?_
  refine J_ddiv Z.1 dX4_over_63 ?_
  refine J_putD Z.1 dX4_over_64 fl_X4_7 (fun q => by cases q) t0 rfl ?_
  refine J_th (fun h2 eh2 => ?_)
  replace hf := lt_i hf h2 eh2
  cases hf
  exact J_vret Z.1 Z.2.2.2.2.2 dX4_over_67
def pX4_over_b47 (g : MT) (this : Nat) (p1 : Nat) (h : CT) : Option CT := bd (pX4_setOdd g h this) fun h1 => (some h1)
set_option maxRecDepth 10000 in
set_option maxHeartbeats 4000000 in
theorem pX4_over_b47_ok {X : Cx} {G : Gx} {dk : Nat} {g : MT} {h0 : CT} {this : Nat} {p1 : Nat} (Z : Zx X G cX4_over RX4 2 dk none none g h0) (hK : 1 ≤ dk) (t0 : gT g this = 4) (h : CT) (hf : pX4_over_b47 g this p1 h = some h0) : J X g h 47 [(0, va_rf (some this))] [] := by
  unfold pX4_over_b47 at hf
  refine J_aload_n Z.1 0 dX4_over_47 rfl rfl ?_
  replace hf := bd_i hf
  obtain ⟨h1, q2, hf⟩ := hf
  refine J_callV (ci := 3) (as := []) (rest := []) (sy := []) Z.1 dX4_over_48 cw_X4_27 (pX4_setOdd_ok G (dk - 1) (by omega) q2) rfl rfl t0 (zG Z) rfl (by decide) (zF Z (by omega)) (zO Z (by omega) (by decide)) (zM _) Z.2.1 Z.2.1 rfl rfl ?_
  refine J_goto Z.1 67 dX4_over_51 (by decide) ?_
  cases hf
  exact J_vret Z.1 Z.2.2.2.2.2 dX4_over_67
def pX4_over_b27 (g : MT) (this : Nat) (p1 : Nat) (h : CT) : Option CT := if (pX4_isInfinite (hD h this 0)) = 0 then pX4_over_b54 g this p1  h else tg g p1 4 (if (pX4_isInfinite (hD h p1 0)) = 0 then pX4_over_b54 g this p1  h else pX4_over_b47 g this p1  h)
set_option maxRecDepth 10000 in
set_option maxHeartbeats 4000000 in
theorem pX4_over_b27_ok {X : Cx} {G : Gx} {dk : Nat} {g : MT} {h0 : CT} {this : Nat} {p1 : Nat} (Z : Zx X G cX4_over RX4 2 dk none none g h0) (hK : 1 ≤ dk) (t0 : gT g this = 4) (h : CT) (hf : pX4_over_b27 g this p1 h = some h0) : J X g h 27 [(0, va_rf (some this)), (1, va_rf (some p1))] [] := by
  unfold pX4_over_b27 at hf
  refine J_aload_n Z.1 0 dX4_over_27 rfl rfl ?_
  refine J_get (v := .double (hD h this 0)) Z.1 dX4_over_28 fl_X4_7 t0 rfl ?_
  refine J_callS (as := [.double (hD h this 0)]) (rest := []) (sy := [.int (pX4_isInfinite (hD h this 0))]) Z.1 dX4_over_31 cw_X4_34 (pX4_isInfinite_ok G (dk - 1) (by omega) g h (hD h this 0)) (zG Z) rfl (by decide) (zF Z (by omega)) (zO Z (by omega) (by decide)) (zM _) Z.2.1 Z.2.1 rfl rfl ?_
  refine J_if_eq Z.1 54 dX4_over_34 (by decide) (fun c1 => ?_) (fun c1 => ?_)
  · rw [if_pos c1] at hf
    exact pX4_over_b54_ok Z hK t0  _ hf
  · rw [if_neg c1] at hf
    refine J_aload_n Z.1 1 dX4_over_37 rfl rfl ?_
    replace hf := tg_i hf
    obtain ⟨t2, hf⟩ := hf
    refine J_get (v := .double (hD h p1 0)) Z.1 dX4_over_38 fl_X4_7 t2 rfl ?_
    refine J_callS (as := [.double (hD h p1 0)]) (rest := []) (sy := [.int (pX4_isInfinite (hD h p1 0))]) Z.1 dX4_over_41 cw_X4_34 (pX4_isInfinite_ok G (dk - 1) (by omega) g h (hD h p1 0)) (zG Z) rfl (by decide) (zF Z (by omega)) (zO Z (by omega) (by decide)) (zM _) Z.2.1 Z.2.1 rfl rfl ?_
    refine J_if_eq Z.1 54 dX4_over_44 (by decide) (fun c3 => ?_) (fun c3 => ?_)
    · rw [if_pos c3] at hf
      exact pX4_over_b54_ok Z hK t0  _ hf
    · rw [if_neg c3] at hf
      refine J_lv [0] rfl ?_
      exact pX4_over_b47_ok Z hK t0  _ hf
def pX4_over (g : MT) (h : CT) (this : Nat) (p1 : Nat) : Option CT := tg g this 4 (bd2 (pX4_takesOdd g h this p1) fun x3 h1 => (if x3 = 0 then if (Op.cmpValue (FP.dcmp (hD h1 this 0) 0) .l) = 0 then tg g p1 4 (if (Op.cmpValue (FP.dcmp (hD h1 p1 0) 0) .l) = 0 then pX4_over_b47 g this p1  h1 else pX4_over_b27 g this p1  h1) else pX4_over_b27 g this p1  h1 else some h1))
set_option maxRecDepth 10000 in
set_option maxHeartbeats 4000000 in
theorem pX4_over_ok (G : Gx) (dk : Nat) (hK : 1 ≤ dk) {g : MT} {h h0 : CT} {this : Nat} {p1 : Nat} (hf : pX4_over g h this p1 = some h0) : Ctr G dk yX4_over cX4_over 2 none [va_rf (some this), va_rf (some p1)] g h none g h0 := by
  refine Ctr.ofZ (lv := [(0, va_rf (some this)), (1, va_rf (some p1))]) (by decide +kernel) (by simp [cat_i, cat_l, cat_d, cat_rf]) rfl fun X Z => ?_
  unfold pX4_over at hf
  replace hf := tg_i hf
  obtain ⟨t0, hf⟩ := hf
  refine J_aload_n Z.1 0 dX4_over_0 rfl rfl ?_
  refine J_aload_n Z.1 1 dX4_over_1 rfl rfl ?_
  replace hf := bd2_i hf
  obtain ⟨x3, h1, q2, hf⟩ := hf
  refine J_callV (ci := 3) (as := [va_rf (some p1)]) (rest := []) (sy := [.int x3]) Z.1 dX4_over_2 cw_X4_41 (pX4_takesOdd_ok G (dk - 1) (by omega) q2) rfl rfl t0 (zG Z) rfl (by decide) (zF Z (by omega)) (zO Z (by omega) (by decide)) (zM _) Z.2.1 Z.2.1 rfl rfl ?_
  refine J_if_eq Z.1 9 dX4_over_5 (by decide) (fun c4 => ?_) (fun c4 => ?_)
  · rw [if_pos c4] at hf
    refine J_aload_n Z.1 0 dX4_over_9 rfl rfl ?_
    refine J_get (v := .double (hD h1 this 0)) Z.1 dX4_over_10 fl_X4_7 t0 rfl ?_
    refine J_dconst0 Z.1 dX4_over_13 ?_
    refine J_dcmp Z.1 dX4_over_14 ?_
    refine J_if_ne Z.1 27 dX4_over_15 (by decide) (fun c5 => ?_) (fun c5 => ?_)
    · rw [if_neg c5] at hf
      exact pX4_over_b27_ok Z hK t0  _ hf
    · rw [if_pos c5] at hf
      refine J_aload_n Z.1 1 dX4_over_18 rfl rfl ?_
      replace hf := tg_i hf
      obtain ⟨t6, hf⟩ := hf
      refine J_get (v := .double (hD h1 p1 0)) Z.1 dX4_over_19 fl_X4_7 t6 rfl ?_
      refine J_dconst0 Z.1 dX4_over_22 ?_
      refine J_dcmp Z.1 dX4_over_23 ?_
      refine J_if_eq Z.1 47 dX4_over_24 (by decide) (fun c7 => ?_) (fun c7 => ?_)
      · rw [if_pos c7] at hf
        refine J_lv [0] rfl ?_
        exact pX4_over_b47_ok Z hK t0  _ hf
      · rw [if_neg c7] at hf
        exact pX4_over_b27_ok Z hK t0  _ hf
  · rw [if_neg c4] at hf
    cases hf
    exact J_vret Z.1 Z.2.2.2.2.2 dX4_over_8
theorem dX4_least_0 : decode cX4_least 0 = .ok (.aload_n 0, 1) := by decide +kernel
theorem dX4_least_1 : decode cX4_least 1 = .ok (.aload_n 1, 1) := by decide +kernel
theorem dX4_least_2 : decode cX4_least 2 = .ok (.invokevirtual 41, 3) := by decide +kernel
theorem dX4_least_5 : decode cX4_least 5 = .ok (.ifCond .eq 4, 3) := by decide +kernel
theorem dX4_least_8 : decode cX4_least 8 = .ok (.return_, 1) := by decide +kernel
theorem dX4_least_9 : decode cX4_least 9 = .ok (.aload_n 1, 1) := by decide +kernel
theorem dX4_least_10 : decode cX4_least 10 = .ok (.getfield 7, 3) := by decide +kernel
theorem dX4_least_13 : decode cX4_least 13 = .ok (.aload_n 0, 1) := by decide +kernel
theorem dX4_least_14 : decode cX4_least 14 = .ok (.getfield 7, 3) := by decide +kernel
theorem dX4_least_17 : decode cX4_least 17 = .ok (.dcmp .g, 1) := by decide +kernel
theorem dX4_least_18 : decode cX4_least 18 = .ok (.ifCond .lt 22, 3) := by decide +kernel
theorem dX4_least_21 : decode cX4_least 21 = .ok (.aload_n 1, 1) := by decide +kernel
theorem dX4_least_22 : decode cX4_least 22 = .ok (.getfield 7, 3) := by decide +kernel
theorem dX4_least_25 : decode cX4_least 25 = .ok (.invokestatic 30, 3) := by decide +kernel
theorem dX4_least_28 : decode cX4_least 28 = .ok (.ifCond .eq 20, 3) := by decide +kernel
theorem dX4_least_31 : decode cX4_least 31 = .ok (.aload_n 0, 1) := by decide +kernel
theorem dX4_least_32 : decode cX4_least 32 = .ok (.getfield 7, 3) := by decide +kernel
theorem dX4_least_35 : decode cX4_least 35 = .ok (.dconst 0, 1) := by decide +kernel
theorem dX4_least_36 : decode cX4_least 36 = .ok (.dcmp .l, 1) := by decide +kernel
theorem dX4_least_37 : decode cX4_least 37 = .ok (.ifCond .ne 11, 3) := by decide +kernel
theorem dX4_least_40 : decode cX4_least 40 = .ok (.aload_n 0, 1) := by decide +kernel
theorem dX4_least_41 : decode cX4_least 41 = .ok (.aload_n 1, 1) := by decide +kernel
theorem dX4_least_42 : decode cX4_least 42 = .ok (.getfield 7, 3) := by decide +kernel
theorem dX4_least_45 : decode cX4_least 45 = .ok (.putfield 7, 3) := by decide +kernel
theorem dX4_least_48 : decode cX4_least 48 = .ok (.return_, 1) := by decide +kernel
def pX4_least_b40 (g : MT) (this : Nat) (p1 : Nat) (h : CT) : Option CT := tg g p1 4 (lt (sD h this 0 (hD h p1 0)) fun h2 => (some h2))
set_option maxRecDepth 10000 in
set_option maxHeartbeats 4000000 in
theorem pX4_least_b40_ok {X : Cx} {G : Gx} {dk : Nat} {g : MT} {h0 : CT} {this : Nat} {p1 : Nat} (Z : Zx X G cX4_least RX4 2 dk none none g h0) (hK : 1 ≤ dk) (t0 : gT g this = 4) (h : CT) (hf : pX4_least_b40 g this p1 h = some h0) : J X g h 40 [(0, va_rf (some this)), (1, va_rf (some p1))] [] := by
  unfold pX4_least_b40 at hf
  refine J_aload_n Z.1 0 dX4_least_40 rfl rfl ?_
  refine J_aload_n Z.1 1 dX4_least_41 rfl rfl ?_
  replace hf := tg_i hf
  obtain ⟨t1, hf⟩ := hf
  refine J_get (v := .double (hD h p1 0)) Z.1 dX4_least_42 fl_X4_7 t1 rfl ?_
  refine J_putD Z.1 dX4_least_45 fl_X4_7 (fun q => by cases q) t0 rfl ?_
  refine J_th (fun h2 eh2 => ?_)
  replace hf := lt_i hf h2 eh2
  cases hf
  exact J_vret Z.1 Z.2.2.2.2.2 dX4_least_48
def pX4_least (g : MT) (h : CT) (this : Nat) (p1 : Nat) : Option CT := tg g this 4 (bd2 (pX4_takesOdd g h this p1) fun x3 h1 => (if x3 = 0 then tg g p1 4 (if (Op.cmpValue (FP.dcmp (hD h1 p1 0) (hD h1 this 0)) .g) < 0 then pX4_least_b40 g this p1  h1 else if (pX4_isMinusZero (hD h1 p1 0)) = 0 then some h1 else if (Op.cmpValue (FP.dcmp (hD h1 this 0) 0) .l) = 0 then pX4_least_b40 g this p1  h1 else some h1) else some h1))
set_option maxRecDepth 10000 in
set_option maxHeartbeats 4000000 in
theorem pX4_least_ok (G : Gx) (dk : Nat) (hK : 1 ≤ dk) {g : MT} {h h0 : CT} {this : Nat} {p1 : Nat} (hf : pX4_least g h this p1 = some h0) : Ctr G dk yX4_least cX4_least 2 none [va_rf (some this), va_rf (some p1)] g h none g h0 := by
  refine Ctr.ofZ (lv := [(0, va_rf (some this)), (1, va_rf (some p1))]) (by decide +kernel) (by simp [cat_i, cat_l, cat_d, cat_rf]) rfl fun X Z => ?_
  unfold pX4_least at hf
  replace hf := tg_i hf
  obtain ⟨t0, hf⟩ := hf
  refine J_aload_n Z.1 0 dX4_least_0 rfl rfl ?_
  refine J_aload_n Z.1 1 dX4_least_1 rfl rfl ?_
  replace hf := bd2_i hf
  obtain ⟨x3, h1, q2, hf⟩ := hf
  refine J_callV (ci := 3) (as := [va_rf (some p1)]) (rest := []) (sy := [.int x3]) Z.1 dX4_least_2 cw_X4_41 (pX4_takesOdd_ok G (dk - 1) (by omega) q2) rfl rfl t0 (zG Z) rfl (by decide) (zF Z (by omega)) (zO Z (by omega) (by decide)) (zM _) Z.2.1 Z.2.1 rfl rfl ?_
  refine J_if_eq Z.1 9 dX4_least_5 (by decide) (fun c4 => ?_) (fun c4 => ?_)
  · rw [if_pos c4] at hf
    refine J_aload_n Z.1 1 dX4_least_9 rfl rfl ?_
    replace hf := tg_i hf
    obtain ⟨t5, hf⟩ := hf
    refine J_get (v := .double (hD h1 p1 0)) Z.1 dX4_least_10 fl_X4_7 t5 rfl ?_
    refine J_aload_n Z.1 0 dX4_least_13 rfl rfl ?_
    refine J_get (v := .double (hD h1 this 0)) Z.1 dX4_least_14 fl_X4_7 t0 rfl ?_
    refine J_dcmp Z.1 dX4_least_17 ?_
    refine J_if_lt Z.1 40 dX4_least_18 (by decide) (fun c6 => ?_) (fun c6 => ?_)
    · rw [if_pos c6] at hf
      exact pX4_least_b40_ok Z hK t0  _ hf
    · rw [if_neg c6] at hf
      refine J_aload_n Z.1 1 dX4_least_21 rfl rfl ?_
      refine J_get (v := .double (hD h1 p1 0)) Z.1 dX4_least_22 fl_X4_7 t5 rfl ?_
      refine J_callS (as := [.double (hD h1 p1 0)]) (rest := []) (sy := [.int (pX4_isMinusZero (hD h1 p1 0))]) Z.1 dX4_least_25 cw_X4_30 (pX4_isMinusZero_ok G (dk - 1) (by omega) g h1 (hD h1 p1 0)) (zG Z) rfl (by decide) (zF Z (by omega)) (zO Z (by omega) (by decide)) (zM _) Z.2.1 Z.2.1 rfl rfl ?_
      refine J_if_eq Z.1 48 dX4_least_28 (by decide) (fun c7 => ?_) (fun c7 => ?_)
      · rw [if_pos c7] at hf
        cases hf
        exact J_vret Z.1 Z.2.2.2.2.2 dX4_least_48
      · rw [if_neg c7] at hf
        refine J_aload_n Z.1 0 dX4_least_31 rfl rfl ?_
        refine J_get (v := .double (hD h1 this 0)) Z.1 dX4_least_32 fl_X4_7 t0 rfl ?_
        refine J_dconst0 Z.1 dX4_least_35 ?_
        refine J_dcmp Z.1 dX4_least_36 ?_
        refine J_if_ne Z.1 48 dX4_least_37 (by decide) (fun c8 => ?_) (fun c8 => ?_)
        · rw [if_neg c8] at hf
          cases hf
          exact J_vret Z.1 Z.2.2.2.2.2 dX4_least_48
        · rw [if_pos c8] at hf
          exact pX4_least_b40_ok Z hK t0  _ hf
  · rw [if_neg c4] at hf
    cases hf
    exact J_vret Z.1 Z.2.2.2.2.2 dX4_least_8
theorem dX4_most_0 : decode cX4_most 0 = .ok (.aload_n 0, 1) := by decide +kernel
theorem dX4_most_1 : decode cX4_most 1 = .ok (.aload_n 1, 1) := by decide +kernel
theorem dX4_most_2 : decode cX4_most 2 = .ok (.invokevirtual 41, 3) := by decide +kernel
theorem dX4_most_5 : decode cX4_most 5 = .ok (.ifCond .eq 4, 3) := by decide +kernel
theorem dX4_most_8 : decode cX4_most 8 = .ok (.return_, 1) := by decide +kernel
theorem dX4_most_9 : decode cX4_most 9 = .ok (.aload_n 1, 1) := by decide +kernel
theorem dX4_most_10 : decode cX4_most 10 = .ok (.getfield 7, 3) := by decide +kernel
theorem dX4_most_13 : decode cX4_most 13 = .ok (.aload_n 0, 1) := by decide +kernel
theorem dX4_most_14 : decode cX4_most 14 = .ok (.getfield 7, 3) := by decide +kernel
theorem dX4_most_17 : decode cX4_most 17 = .ok (.dcmp .l, 1) := by decide +kernel
theorem dX4_most_18 : decode cX4_most 18 = .ok (.ifCond .gt 22, 3) := by decide +kernel
theorem dX4_most_21 : decode cX4_most 21 = .ok (.aload_n 0, 1) := by decide +kernel
theorem dX4_most_22 : decode cX4_most 22 = .ok (.getfield 7, 3) := by decide +kernel
theorem dX4_most_25 : decode cX4_most 25 = .ok (.invokestatic 30, 3) := by decide +kernel
theorem dX4_most_28 : decode cX4_most 28 = .ok (.ifCond .eq 20, 3) := by decide +kernel
theorem dX4_most_31 : decode cX4_most 31 = .ok (.aload_n 1, 1) := by decide +kernel
theorem dX4_most_32 : decode cX4_most 32 = .ok (.getfield 7, 3) := by decide +kernel
theorem dX4_most_35 : decode cX4_most 35 = .ok (.dconst 0, 1) := by decide +kernel
theorem dX4_most_36 : decode cX4_most 36 = .ok (.dcmp .l, 1) := by decide +kernel
theorem dX4_most_37 : decode cX4_most 37 = .ok (.ifCond .ne 11, 3) := by decide +kernel
theorem dX4_most_40 : decode cX4_most 40 = .ok (.aload_n 0, 1) := by decide +kernel
theorem dX4_most_41 : decode cX4_most 41 = .ok (.aload_n 1, 1) := by decide +kernel
theorem dX4_most_42 : decode cX4_most 42 = .ok (.getfield 7, 3) := by decide +kernel
theorem dX4_most_45 : decode cX4_most 45 = .ok (.putfield 7, 3) := by decide +kernel
theorem dX4_most_48 : decode cX4_most 48 = .ok (.return_, 1) := by decide +kernel
def pX4_most_b40 (g : MT) (this : Nat) (p1 : Nat) (h : CT) : Option CT := tg g p1 4 (lt (sD h this 0 (hD h p1 0)) fun h2 => (some h2))
set_option maxRecDepth 10000 in
set_option maxHeartbeats 4000000 in
theorem pX4_most_b40_ok {X : Cx} {G : Gx} {dk : Nat} {g : MT} {h0 : CT} {this : Nat} {p1 : Nat} (Z : Zx X G cX4_most RX4 2 dk none none g h0) (hK : 1 ≤ dk) (t0 : gT g this = 4) (h : CT) (hf : pX4_most_b40 g this p1 h = some h0) : J X g h 40 [(0, va_rf (some this)), (1, va_rf (some p1))] [] := by
  unfold pX4_most_b40 at hf
  refine J_aload_n Z.1 0 dX4_most_40 rfl rfl ?_
  refine J_aload_n Z.1 1 dX4_most_41 rfl rfl ?_
  replace hf := tg_i hf
  obtain ⟨t1, hf⟩ := hf
  refine J_get (v := .double (hD h p1 0)) Z.1 dX4_most_42 fl_X4_7 t1 rfl ?_
  refine J_putD Z.1 dX4_most_45 fl_X4_7 (fun q => by cases q) t0 rfl ?_
  refine J_th (fun h2 eh2 => ?_)
  replace hf := lt_i hf h2 eh2
  cases hf
  exact J_vret Z.1 Z.2.2.2.2.2 dX4_most_48
def pX4_most (g : MT) (h : CT) (this : Nat) (p1 : Nat) : Option CT := tg g this 4 (bd2 (pX4_takesOdd g h this p1) fun x3 h1 => (if x3 = 0 then tg g p1 4 (if 0 < (Op.cmpValue (FP.dcmp (hD h1 p1 0) (hD h1 this 0)) .l) then pX4_most_b40 g this p1  h1 else if (pX4_isMinusZero (hD h1 this 0)) = 0 then some h1 else if (Op.cmpValue (FP.dcmp (hD h1 p1 0) 0) .l) = 0 then pX4_most_b40 g this p1  h1 else some h1) else some h1))
set_option maxRecDepth 10000 in
set_option maxHeartbeats 4000000 in
theorem pX4_most_ok (G : Gx) (dk : Nat) (hK : 1 ≤ dk) {g : MT} {h h0 : CT} {this : Nat} {p1 : Nat} (hf : pX4_most g h this p1 = some h0) : Ctr G dk yX4_most cX4_most 2 none [va_rf (some this), va_rf (some p1)] g h none g h0 := by
  refine Ctr.ofZ (lv := [(0, va_rf (some this)), (1, va_rf (some p1))]) (by decide +kernel) (by simp [cat_i, cat_l, cat_d, cat_rf]) rfl fun X Z => ?_
  unfold pX4_most at hf
  replace hf := tg_i hf
  obtain ⟨t0, hf⟩ := hf
  refine J_aload_n Z.1 0 dX4_most_0 rfl rfl ?_
  refine J_aload_n Z.1 1 dX4_most_1 rfl rfl ?_
  replace hf := bd2_i hf
  obtain ⟨x3, h1, q2, hf⟩ := hf
  refine J_callV (ci := 3) (as := [va_rf (some p1)]) (rest := []) (sy := [.int x3]) Z.1 dX4_most_2 cw_X4_41 (pX4_takesOdd_ok G (dk - 1) (by omega) q2) rfl rfl t0 (zG Z) rfl (by decide) (zF Z (by omega)) (zO Z (by omega) (by decide)) (zM _) Z.2.1 Z.2.1 rfl rfl ?_
  refine J_if_eq Z.1 9 dX4_most_5 (by decide) (fun c4 => ?_) (fun c4 => ?_)
  · rw [if_pos c4] at hf
    refine J_aload_n Z.1 1 dX4_most_9 rfl rfl ?_
    replace hf := tg_i hf
    obtain ⟨t5, hf⟩ := hf
    refine J_get (v := .double (hD h1 p1 0)) Z.1 dX4_most_10 fl_X4_7 t5 rfl ?_
    refine J_aload_n Z.1 0 dX4_most_13 rfl rfl ?_
    refine J_get (v := .double (hD h1 this 0)) Z.1 dX4_most_14 fl_X4_7 t0 rfl ?_
    refine J_dcmp Z.1 dX4_most_17 ?_
    refine J_if_gt Z.1 40 dX4_most_18 (by decide) (fun c6 => ?_) (fun c6 => ?_)
    · rw [if_pos c6] at hf
      exact pX4_most_b40_ok Z hK t0  _ hf
    · rw [if_neg c6] at hf
      refine J_aload_n Z.1 0 dX4_most_21 rfl rfl ?_
      refine J_get (v := .double (hD h1 this 0)) Z.1 dX4_most_22 fl_X4_7 t0 rfl ?_
      refine J_callS (as := [.double (hD h1 this 0)]) (rest := []) (sy := [.int (pX4_isMinusZero (hD h1 this 0))]) Z.1 dX4_most_25 cw_X4_30 (pX4_isMinusZero_ok G (dk - 1) (by omega) g h1 (hD h1 this 0)) (zG Z) rfl (by decide) (zF Z (by omega)) (zO Z (by omega) (by decide)) (zM _) Z.2.1 Z.2.1 rfl rfl ?_
      refine J_if_eq Z.1 48 dX4_most_28 (by decide) (fun c7 => ?_) (fun c7 => ?_)
      · rw [if_pos c7] at hf
        cases hf
        exact J_vret Z.1 Z.2.2.2.2.2 dX4_most_48
      · rw [if_neg c7] at hf
        refine J_aload_n Z.1 1 dX4_most_31 rfl rfl ?_
        refine J_get (v := .double (hD h1 p1 0)) Z.1 dX4_most_32 fl_X4_7 t5 rfl ?_
        refine J_dconst0 Z.1 dX4_most_35 ?_
        refine J_dcmp Z.1 dX4_most_36 ?_
        refine J_if_ne Z.1 48 dX4_most_37 (by decide) (fun c8 => ?_) (fun c8 => ?_)
        · rw [if_neg c8] at hf
          cases hf
          exact J_vret Z.1 Z.2.2.2.2.2 dX4_most_48
        · rw [if_pos c8] at hf
          exact pX4_most_b40_ok Z hK t0  _ hf
  · rw [if_neg c4] at hf
    cases hf
    exact J_vret Z.1 Z.2.2.2.2.2 dX4_most_8
theorem dX4_toSingle_0 : decode cX4_toSingle 0 = .ok (.aload_n 0, 1) := by decide +kernel
theorem dX4_toSingle_1 : decode cX4_toSingle 1 = .ok (.aload_n 0, 1) := by decide +kernel
theorem dX4_toSingle_2 : decode cX4_toSingle 2 = .ok (.getfield 7, 3) := by decide +kernel
theorem dX4_toSingle_5 : decode cX4_toSingle 5 = .ok (.d2f, 1) := by decide +kernel
theorem dX4_toSingle_6 : decode cX4_toSingle 6 = .ok (.f2d, 1) := by decide +kernel
theorem dX4_toSingle_7 : decode cX4_toSingle 7 = .ok (.putfield 7, 3) := by decide +kernel
theorem dX4_toSingle_10 : decode cX4_toSingle 10 = .ok (.return_, 1) := by decide +kernel
def pX4_toSingle (g : MT) (h : CT) (this : Nat) : Option CT := tg g this 4 (lt (sD h this 0 (cnD (FP.f2d (cnF (FP.d2f (hD h this 0)))))) fun h1 => (some h1))
set_option maxRecDepth 10000 in
set_option maxHeartbeats 4000000 in
theorem pX4_toSingle_ok (G : Gx) (dk : Nat) (hK : 0 ≤ dk) {g : MT} {h h0 : CT} {this : Nat} (hf : pX4_toSingle g h this = some h0) : Ctr G dk yX4_toSingle cX4_toSingle 1 none [va_rf (some this)] g h none g h0 := by
  refine Ctr.ofZ (lv := [(0, va_rf (some this))]) (by decide +kernel) (by simp [cat_i, cat_l, cat_d, cat_rf]) rfl fun X Z => ?_
  unfold pX4_toSingle at hf
  replace hf := tg_i hf
  obtain ⟨t0, hf⟩ := hf
  refine J_aload_n Z.1 0 dX4_toSingle_0 rfl rfl ?_
  refine J_aload_n Z.1 0 dX4_toSingle_1 rfl rfl ?_
  refine J_get (v := .double (hD h this 0)) Z.1 dX4_toSingle_2 fl_X4_7 t0 rfl ?_
  refine J_d2f Z.1 dX4_toSingle_5 ?_
  refine J_f2d Z.1 dX4_toSingle_6 ?_
  refine J_putD Z.1 dX4_toSingle_7 fl_X4_7 (fun q => by cases q) t0 rfl ?_
  refine J_th (fun h1 eh1 => ?_)
  replace hf := lt_i hf h1 eh1
  cases hf
  exact J_vret Z.1 Z.2.2.2.2.2 dX4_toSingle_10
theorem dX4_asLong_0 : decode cX4_asLong 0 = .ok (.aload_n 0, 1) := by decide +kernel
theorem dX4_asLong_1 : decode cX4_asLong 1 = .ok (.getfield 13, 3) := by decide +kernel
theorem dX4_asLong_4 : decode cX4_asLong 4 = .ok (.ifCond .eq 7, 3) := by decide +kernel
theorem dX4_asLong_7 : decode cX4_asLong 7 = .ok (.lconst 0, 1) := by decide +kernel
theorem dX4_asLong_8 : decode cX4_asLong 8 = .ok (.goto 8, 3) := by decide +kernel
theorem dX4_asLong_11 : decode cX4_asLong 11 = .ok (.aload_n 0, 1) := by decide +kernel
theorem dX4_asLong_12 : decode cX4_asLong 12 = .ok (.getfield 7, 3) := by decide +kernel
theorem dX4_asLong_15 : decode cX4_asLong 15 = .ok (.d2l, 1) := by decide +kernel
theorem dX4_asLong_16 : decode cX4_asLong 16 = .ok (.lreturn, 1) := by decide +kernel
def pX4_asLong (g : MT) (h : CT) (this : Nat) : Option Int64 := tg g this 4 (if (hI h this 1) = 0 then some (FP.d2l (hD h this 0)) else some 0)
set_option maxRecDepth 10000 in
set_option maxHeartbeats 4000000 in
theorem pX4_asLong_ok (G : Gx) (dk : Nat) (hK : 0 ≤ dk) {g : MT} {h : CT} {this : Nat} {r0 : Int64} (hf : pX4_asLong g h this = some r0) : Ctr G dk yX4_asLong cX4_asLong 1 (some .long) [va_rf (some this)] g h (some (.long r0)) g h := by
  refine Ctr.ofZ (lv := [(0, va_rf (some this))]) (by decide +kernel) (by simp [cat_i, cat_l, cat_d, cat_rf]) rfl fun X Z => ?_
  unfold pX4_asLong at hf
  replace hf := tg_i hf
  obtain ⟨t0, hf⟩ := hf
  refine J_aload_n Z.1 0 dX4_asLong_0 rfl rfl ?_
  refine J_get (v := .int (hI h this 1)) Z.1 dX4_asLong_1 fl_X4_13 t0 rfl ?_
  refine J_if_eq Z.1 11 dX4_asLong_4 (by decide) (fun c1 => ?_) (fun c1 => ?_)
  · rw [if_pos c1] at hf
    refine J_aload_n Z.1 0 dX4_asLong_11 rfl rfl ?_
    refine J_get (v := .double (hD h this 0)) Z.1 dX4_asLong_12 fl_X4_7 t0 rfl ?_
    refine J_d2l Z.1 dX4_asLong_15 ?_
    cases hf
    exact J_lret Z.1 Z.2.2.2.2.2 dX4_asLong_16
  · rw [if_neg c1] at hf
    refine J_lconst Z.1 (v := 0) (by decide) dX4_asLong_7 ?_
    refine J_goto Z.1 16 dX4_asLong_8 (by decide) ?_
    cases hf
    exact J_lret Z.1 Z.2.2.2.2.2 dX4_asLong_16
theorem dX4_toWhole_0 : decode cX4_toWhole 0 = .ok (.aload_n 0, 1) := by decide +kernel
theorem dX4_toWhole_1 : decode cX4_toWhole 1 = .ok (.aload_n 0, 1) := by decide +kernel
theorem dX4_toWhole_2 : decode cX4_toWhole 2 = .ok (.invokevirtual 45, 3) := by decide +kernel
theorem dX4_toWhole_5 : decode cX4_toWhole 5 = .ok (.l2d, 1) := by decide +kernel
theorem dX4_toWhole_6 : decode cX4_toWhole 6 = .ok (.invokevirtual 19, 3) := by decide +kernel
theorem dX4_toWhole_9 : decode cX4_toWhole 9 = .ok (.return_, 1) := by decide +kernel
def pX4_toWhole (g : MT) (h : CT) (this : Nat) : Option CT := tg g this 4 (bd (pX4_asLong g h this) fun x1 => (bd (pX4_set g h this (fl2d x1)) fun h3 => (some h3)))
set_option maxRecDepth 10000 in
set_option maxHeartbeats 4000000 in
theorem pX4_toWhole_ok (G : Gx) (dk : Nat) (hK : 1 ≤ dk) {g : MT} {h h0 : CT} {this : Nat} (hf : pX4_toWhole g h this = some h0) : Ctr G dk yX4_toWhole cX4_toWhole 1 none [va_rf (some this)] g h none g h0 := by
  refine Ctr.ofZ (lv := [(0, va_rf (some this))]) (by decide +kernel) (by simp [cat_i, cat_l, cat_d, cat_rf]) rfl fun X Z => ?_
  unfold pX4_toWhole at hf
  replace hf := tg_i hf
  obtain ⟨t0, hf⟩ := hf
  refine J_aload_n Z.1 0 dX4_toWhole_0 rfl rfl ?_
  refine J_aload_n Z.1 0 dX4_toWhole_1 rfl rfl ?_
  replace hf := bd_i hf
  obtain ⟨x1, q2, hf⟩ := hf
  refine J_callV (ci := 3) (as := []) (rest := [va_rf (some this)]) (sy := [.long x1, va_rf (some this)]) Z.1 dX4_toWhole_2 cw_X4_45 (pX4_asLong_ok G (dk - 1) (by omega) q2) rfl rfl t0 (zG Z) rfl (by simp [cat_i, cat_l, cat_d, cat_rf]) (zF Z (by omega)) (zO Z (by omega) (by decide)) (zM _) Z.2.1 Z.2.1 rfl rfl ?_
  refine J_l2d Z.1 dX4_toWhole_5 ?_
  replace hf := bd_i hf
  obtain ⟨h3, q4, hf⟩ := hf
  refine J_callV (ci := 3) (as := [.double (fl2d x1)]) (rest := []) (sy := []) Z.1 dX4_toWhole_6 cw_X4_19 (pX4_set_ok G (dk - 1) (by omega) q4) rfl rfl t0 (zG Z) rfl (by decide) (zF Z (by omega)) (zO Z (by omega) (by decide)) (zM _) Z.2.1 Z.2.1 rfl rfl ?_
  cases hf
  exact J_vret Z.1 Z.2.2.2.2.2 dX4_toWhole_9
theorem dX4_isLess_0 : decode cX4_isLess 0 = .ok (.aload_n 0, 1) := by decide +kernel
theorem dX4_isLess_1 : decode cX4_isLess 1 = .ok (.getfield 13, 3) := by decide +kernel
theorem dX4_isLess_4 : decode cX4_isLess 4 = .ok (.ifCond .ne 26, 3) := by decide +kernel
theorem dX4_isLess_7 : decode cX4_isLess 7 = .ok (.aload_n 1, 1) := by decide +kernel
theorem dX4_isLess_8 : decode cX4_isLess 8 = .ok (.getfield 13, 3) := by decide +kernel
theorem dX4_isLess_11 : decode cX4_isLess 11 = .ok (.ifCond .ne 19, 3) := by decide +kernel
theorem dX4_isLess_14 : decode cX4_isLess 14 = .ok (.aload_n 0, 1) := by decide +kernel
theorem dX4_isLess_15 : decode cX4_isLess 15 = .ok (.getfield 7, 3) := by decide +kernel
theorem dX4_isLess_18 : decode cX4_isLess 18 = .ok (.aload_n 1, 1) := by decide +kernel
theorem dX4_isLess_19 : decode cX4_isLess 19 = .ok (.getfield 7, 3) := by decide +kernel
theorem dX4_isLess_22 : decode cX4_isLess 22 = .ok (.dcmp .g, 1) := by decide +kernel
theorem dX4_isLess_23 : decode cX4_isLess 23 = .ok (.ifCond .ge 7, 3) := by decide +kernel
theorem dX4_isLess_26 : decode cX4_isLess 26 = .ok (.iconst 1, 1) := by decide +kernel
theorem dX4_isLess_27 : decode cX4_isLess 27 = .ok (.goto 4, 3) := by decide +kernel
theorem dX4_isLess_30 : decode cX4_isLess 30 = .ok (.iconst 0, 1) := by decide +kernel
theorem dX4_isLess_31 : decode cX4_isLess 31 = .ok (.ireturn, 1) := by decide +kernel
def pX4_isLess (g : MT) (h : CT) (this : Nat) (p1 : Nat) : Option Int32 := tg g this 4 (if (hI h this 1) = 0 then tg g p1 4 (if (hI h p1 1) = 0 then if 0 ≤ (Op.cmpValue (FP.dcmp (hD h this 0) (hD h p1 0)) .g) then some 0 else some 1 else some 0) else some 0)
set_option maxRecDepth 10000 in
set_option maxHeartbeats 4000000 in
theorem pX4_isLess_ok (G : Gx) (dk : Nat) (hK : 0 ≤ dk) {g : MT} {h : CT} {this : Nat} {p1 : Nat} {r0 : Int32} (hf : pX4_isLess g h this p1 = some r0) : Ctr G dk yX4_isLess cX4_isLess 2 (some .boolean) [va_rf (some this), va_rf (some p1)] g h (some (.int r0)) g h := by
  refine Ctr.ofZ (lv := [(0, va_rf (some this)), (1, va_rf (some p1))]) (by decide +kernel) (by simp [cat_i, cat_l, cat_d, cat_rf]) rfl fun X Z => ?_
  unfold pX4_isLess at hf
  replace hf := tg_i hf
  obtain ⟨t0, hf⟩ := hf
  refine J_aload_n Z.1 0 dX4_isLess_0 rfl rfl ?_
  refine J_get (v := .int (hI h this 1)) Z.1 dX4_isLess_1 fl_X4_13 t0 rfl ?_
  refine J_if_ne Z.1 30 dX4_isLess_4 (by decide) (fun c1 => ?_) (fun c1 => ?_)
  · rw [if_neg c1] at hf
    refine J_iconst Z.1 (v := 0) (by decide) dX4_isLess_30 ?_
    cases hf
    exact J_zret Z.1 Z.2.2.2.2.2 (z_n (Or.inl rfl)) dX4_isLess_31
  · rw [if_pos c1] at hf
    refine J_aload_n Z.1 1 dX4_isLess_7 rfl rfl ?_
    replace hf := tg_i hf
    obtain ⟨t2, hf⟩ := hf
    refine J_get (v := .int (hI h p1 1)) Z.1 dX4_isLess_8 fl_X4_13 t2 rfl ?_
    refine J_if_ne Z.1 30 dX4_isLess_11 (by decide) (fun c3 => ?_) (fun c3 => ?_)
    · rw [if_neg c3] at hf
      refine J_iconst Z.1 (v := 0) (by decide) dX4_isLess_30 ?_
      cases hf
      exact J_zret Z.1 Z.2.2.2.2.2 (z_n (Or.inl rfl)) dX4_isLess_31
    · rw [if_pos c3] at hf
      refine J_aload_n Z.1 0 dX4_isLess_14 rfl rfl ?_
      refine J_get (v := .double (hD h this 0)) Z.1 dX4_isLess_15 fl_X4_7 t0 rfl ?_
      refine J_aload_n Z.1 1 dX4_isLess_18 rfl rfl ?_
      refine J_get (v := .double (hD h p1 0)) Z.1 dX4_isLess_19 fl_X4_7 t2 rfl ?_
      refine J_dcmp Z.1 dX4_isLess_22 ?_
      refine J_if_ge Z.1 30 dX4_isLess_23 (by decide) (fun c4 => ?_) (fun c4 => ?_)
      · rw [if_pos c4] at hf
        refine J_iconst Z.1 (v := 0) (by decide) dX4_isLess_30 ?_
        cases hf
        exact J_zret Z.1 Z.2.2.2.2.2 (z_n (Or.inl rfl)) dX4_isLess_31
      · rw [if_neg c4] at hf
        refine J_iconst Z.1 (v := 1) (by decide) dX4_isLess_26 ?_
        refine J_goto Z.1 31 dX4_isLess_27 (by decide) ?_
        cases hf
        exact J_zret Z.1 Z.2.2.2.2.2 (z_n (Or.inr rfl)) dX4_isLess_31
theorem dX4_isSame_0 : decode cX4_isSame 0 = .ok (.aload_n 0, 1) := by decide +kernel
theorem dX4_isSame_1 : decode cX4_isSame 1 = .ok (.getfield 13, 3) := by decide +kernel
theorem dX4_isSame_4 : decode cX4_isSame 4 = .ok (.ifCond .ne 26, 3) := by decide +kernel
theorem dX4_isSame_7 : decode cX4_isSame 7 = .ok (.aload_n 1, 1) := by decide +kernel
theorem dX4_isSame_8 : decode cX4_isSame 8 = .ok (.getfield 13, 3) := by decide +kernel
theorem dX4_isSame_11 : decode cX4_isSame 11 = .ok (.ifCond .ne 19, 3) := by decide +kernel
theorem dX4_isSame_14 : decode cX4_isSame 14 = .ok (.aload_n 0, 1) := by decide +kernel
theorem dX4_isSame_15 : decode cX4_isSame 15 = .ok (.getfield 7, 3) := by decide +kernel
theorem dX4_isSame_18 : decode cX4_isSame 18 = .ok (.aload_n 1, 1) := by decide +kernel
theorem dX4_isSame_19 : decode cX4_isSame 19 = .ok (.getfield 7, 3) := by decide +kernel
theorem dX4_isSame_22 : decode cX4_isSame 22 = .ok (.dcmp .l, 1) := by decide +kernel
theorem dX4_isSame_23 : decode cX4_isSame 23 = .ok (.ifCond .ne 7, 3) := by decide +kernel
theorem dX4_isSame_26 : decode cX4_isSame 26 = .ok (.iconst 1, 1) := by decide +kernel
theorem dX4_isSame_27 : decode cX4_isSame 27 = .ok (.goto 4, 3) := by decide +kernel
theorem dX4_isSame_30 : decode cX4_isSame 30 = .ok (.iconst 0, 1) := by decide +kernel
theorem dX4_isSame_31 : decode cX4_isSame 31 = .ok (.ireturn, 1) := by decide +kernel
def pX4_isSame (g : MT) (h : CT) (this : Nat) (p1 : Nat) : Option Int32 := tg g this 4 (if (hI h this 1) = 0 then tg g p1 4 (if (hI h p1 1) = 0 then if (Op.cmpValue (FP.dcmp (hD h this 0) (hD h p1 0)) .l) = 0 then some 1 else some 0 else some 0) else some 0)
set_option maxRecDepth 10000 in
set_option maxHeartbeats 4000000 in
theorem pX4_isSame_ok (G : Gx) (dk : Nat) (hK : 0 ≤ dk) {g : MT} {h : CT} {this : Nat} {p1 : Nat} {r0 : Int32} (hf : pX4_isSame g h this p1 = some r0) : Ctr G dk yX4_isSame cX4_isSame 2 (some .boolean) [va_rf (some this), va_rf (some p1)] g h (some (.int r0)) g h := by
  refine Ctr.ofZ (lv := [(0, va_rf (some this)), (1, va_rf (some p1))]) (by decide +kernel) (by simp [cat_i, cat_l, cat_d, cat_rf]) rfl fun X Z => ?_
  unfold pX4_isSame at hf
  replace hf := tg_i hf
  obtain ⟨t0, hf⟩ := hf
  refine J_aload_n Z.1 0 dX4_isSame_0 rfl rfl ?_
  refine J_get (v := .int (hI h this 1)) Z.1 dX4_isSame_1 fl_X4_13 t0 rfl ?_
  refine J_if_ne Z.1 30 dX4_isSame_4 (by decide) (fun c1 => ?_) (fun c1 => ?_)
  · rw [if_neg c1] at hf
    refine J_iconst Z.1 (v := 0) (by decide) dX4_isSame_30 ?_
    cases hf
    exact J_zret Z.1 Z.2.2.2.2.2 (z_n (Or.inl rfl)) dX4_isSame_31
  · rw [if_pos c1] at hf
    refine J_aload_n Z.1 1 dX4_isSame_7 rfl rfl ?_
    replace hf := tg_i hf
    obtain ⟨t2, hf⟩ := hf
    refine J_get (v := .int (hI h p1 1)) Z.1 dX4_isSame_8 fl_X4_13 t2 rfl ?_
    refine J_if_ne Z.1 30 dX4_isSame_11 (by decide) (fun c3 => ?_) (fun c3 => ?_)
    · rw [if_neg c3] at hf
      refine J_iconst Z.1 (v := 0) (by decide) dX4_isSame_30 ?_
      cases hf
      exact J_zret Z.1 Z.2.2.2.2.2 (z_n (Or.inl rfl)) dX4_isSame_31
    · rw [if_pos c3] at hf
      refine J_aload_n Z.1 0 dX4_isSame_14 rfl rfl ?_
      refine J_get (v := .double (hD h this 0)) Z.1 dX4_isSame_15 fl_X4_7 t0 rfl ?_
      refine J_aload_n Z.1 1 dX4_isSame_18 rfl rfl ?_
      refine J_get (v := .double (hD h p1 0)) Z.1 dX4_isSame_19 fl_X4_7 t2 rfl ?_
      refine J_dcmp Z.1 dX4_isSame_22 ?_
      refine J_if_ne Z.1 30 dX4_isSame_23 (by decide) (fun c4 => ?_) (fun c4 => ?_)
      · rw [if_neg c4] at hf
        refine J_iconst Z.1 (v := 0) (by decide) dX4_isSame_30 ?_
        cases hf
        exact J_zret Z.1 Z.2.2.2.2.2 (z_n (Or.inl rfl)) dX4_isSame_31
      · rw [if_pos c4] at hf
        refine J_iconst Z.1 (v := 1) (by decide) dX4_isSame_26 ?_
        refine J_goto Z.1 31 dX4_isSame_27 (by decide) ?_
        cases hf
        exact J_zret Z.1 Z.2.2.2.2.2 (z_n (Or.inr rfl)) dX4_isSame_31
theorem dX4_alike_0 : decode cX4_alike 0 = .ok (.aload_n 0, 1) := by decide +kernel
theorem dX4_alike_1 : decode cX4_alike 1 = .ok (.getfield 13, 3) := by decide +kernel
theorem dX4_alike_4 : decode cX4_alike 4 = .ok (.ifCond .eq 10, 3) := by decide +kernel
theorem dX4_alike_7 : decode cX4_alike 7 = .ok (.aload_n 1, 1) := by decide +kernel
theorem dX4_alike_8 : decode cX4_alike 8 = .ok (.getfield 13, 3) := by decide +kernel
theorem dX4_alike_11 : decode cX4_alike 11 = .ok (.ifCond .ne 11, 3) := by decide +kernel
theorem dX4_alike_14 : decode cX4_alike 14 = .ok (.aload_n 0, 1) := by decide +kernel
theorem dX4_alike_15 : decode cX4_alike 15 = .ok (.aload_n 1, 1) := by decide +kernel
theorem dX4_alike_16 : decode cX4_alike 16 = .ok (.invokevirtual 49, 3) := by decide +kernel
theorem dX4_alike_19 : decode cX4_alike 19 = .ok (.ifCond .eq 7, 3) := by decide +kernel
theorem dX4_alike_22 : decode cX4_alike 22 = .ok (.iconst 1, 1) := by decide +kernel
theorem dX4_alike_23 : decode cX4_alike 23 = .ok (.goto 4, 3) := by decide +kernel
theorem dX4_alike_26 : decode cX4_alike 26 = .ok (.iconst 0, 1) := by decide +kernel
theorem dX4_alike_27 : decode cX4_alike 27 = .ok (.ireturn, 1) := by decide +kernel
def pX4_alike_b22 (g : MT) (h : CT) (this : Nat) (p1 : Nat)  : Option Int32 := some 1
set_option maxRecDepth 10000 in
set_option maxHeartbeats 4000000 in
theorem pX4_alike_b22_ok {X : Cx} {G : Gx} {dk : Nat} {g : MT} {r0 : Int32} {h : CT} {this : Nat} {p1 : Nat} (Z : Zx X G cX4_alike RX4 2 dk (some .boolean) (some (.int r0)) g h) (hK : 1 ≤ dk) (t0 : gT g this = 4)  (hf : pX4_alike_b22 g h this p1 = some r0) : J X g h 22 [] [] := by
  unfold pX4_alike_b22 at hf
  refine J_iconst Z.1 (v := 1) (by decide) dX4_alike_22 ?_
  refine J_goto Z.1 27 dX4_alike_23 (by decide) ?_
  cases hf
  exact J_zret Z.1 Z.2.2.2.2.2 (z_n (Or.inr rfl)) dX4_alike_27
def pX4_alike_b14 (g : MT) (h : CT) (this : Nat) (p1 : Nat)  : Option Int32 := bd (pX4_isSame g h this p1) fun x1 => (if x1 = 0 then some 0 else pX4_alike_b22 g h this p1  )
set_option maxRecDepth 10000 in
set_option maxHeartbeats 4000000 in
theorem pX4_alike_b14_ok {X : Cx} {G : Gx} {dk : Nat} {g : MT} {r0 : Int32} {h : CT} {this : Nat} {p1 : Nat} (Z : Zx X G cX4_alike RX4 2 dk (some .boolean) (some (.int r0)) g h) (hK : 1 ≤ dk) (t0 : gT g this = 4)  (hf : pX4_alike_b14 g h this p1 = some r0) : J X g h 14 [(0, va_rf (some this)), (1, va_rf (some p1))] [] := by
  unfold pX4_alike_b14 at hf
  refine J_aload_n Z.1 0 dX4_alike_14 rfl rfl ?_
  refine J_aload_n Z.1 1 dX4_alike_15 rfl rfl ?_
  replace hf := bd_i hf
  obtain ⟨x1, q2, hf⟩ := hf
  refine J_callV (ci := 3) (as := [va_rf (some p1)]) (rest := []) (sy := [.int x1]) Z.1 dX4_alike_16 cw_X4_49 (pX4_isSame_ok G (dk - 1) (by omega) q2) rfl rfl t0 (zG Z) rfl (by decide) (zF Z (by omega)) (zO Z (by omega) (by decide)) (zM _) Z.2.1 Z.2.1 rfl rfl ?_
  refine J_if_eq Z.1 26 dX4_alike_19 (by decide) (fun c3 => ?_) (fun c3 => ?_)
  · rw [if_pos c3] at hf
    refine J_iconst Z.1 (v := 0) (by decide) dX4_alike_26 ?_
    cases hf
    exact J_zret Z.1 Z.2.2.2.2.2 (z_n (Or.inl rfl)) dX4_alike_27
  · rw [if_neg c3] at hf
    refine J_lv [] rfl ?_
    exact pX4_alike_b22_ok Z hK t0   hf
def pX4_alike (g : MT) (h : CT) (this : Nat) (p1 : Nat) : Option Int32 := tg g this 4 (if (hI h this 1) = 0 then pX4_alike_b14 g h this p1   else tg g p1 4 (if (hI h p1 1) = 0 then pX4_alike_b14 g h this p1   else pX4_alike_b22 g h this p1  ))
set_option maxRecDepth 10000 in
set_option maxHeartbeats 4000000 in
theorem pX4_alike_ok (G : Gx) (dk : Nat) (hK : 1 ≤ dk) {g : MT} {h : CT} {this : Nat} {p1 : Nat} {r0 : Int32} (hf : pX4_alike g h this p1 = some r0) : Ctr G dk yX4_alike cX4_alike 2 (some .boolean) [va_rf (some this), va_rf (some p1)] g h (some (.int r0)) g h := by
  refine Ctr.ofZ (lv := [(0, va_rf (some this)), (1, va_rf (some p1))]) (by decide +kernel) (by simp [cat_i, cat_l, cat_d, cat_rf]) rfl fun X Z => ?_
  unfold pX4_alike at hf
  replace hf := tg_i hf
  obtain ⟨t0, hf⟩ := hf
  refine J_aload_n Z.1 0 dX4_alike_0 rfl rfl ?_
  refine J_get (v := .int (hI h this 1)) Z.1 dX4_alike_1 fl_X4_13 t0 rfl ?_
  refine J_if_eq Z.1 14 dX4_alike_4 (by decide) (fun c1 => ?_) (fun c1 => ?_)
  · rw [if_pos c1] at hf
    exact pX4_alike_b14_ok Z hK t0   hf
  · rw [if_neg c1] at hf
    refine J_aload_n Z.1 1 dX4_alike_7 rfl rfl ?_
    replace hf := tg_i hf
    obtain ⟨t2, hf⟩ := hf
    refine J_get (v := .int (hI h p1 1)) Z.1 dX4_alike_8 fl_X4_13 t2 rfl ?_
    refine J_if_ne Z.1 22 dX4_alike_11 (by decide) (fun c3 => ?_) (fun c3 => ?_)
    · rw [if_neg c3] at hf
      refine J_lv [] rfl ?_
      exact pX4_alike_b22_ok Z hK t0   hf
    · rw [if_pos c3] at hf
      exact pX4_alike_b14_ok Z hK t0   hf
theorem dX4_isOffset_0 : decode cX4_isOffset 0 = .ok (.aload_n 0, 1) := by decide +kernel
theorem dX4_isOffset_1 : decode cX4_isOffset 1 = .ok (.getfield 13, 3) := by decide +kernel
theorem dX4_isOffset_4 : decode cX4_isOffset 4 = .ok (.ifCond .ne 43, 3) := by decide +kernel
theorem dX4_isOffset_7 : decode cX4_isOffset 7 = .ok (.aload_n 0, 1) := by decide +kernel
theorem dX4_isOffset_8 : decode cX4_isOffset 8 = .ok (.getfield 7, 3) := by decide +kernel
theorem dX4_isOffset_11 : decode cX4_isOffset 11 = .ok (.ldc2_w 52, 3) := by decide +kernel
theorem dX4_isOffset_14 : decode cX4_isOffset 14 = .ok (.dcmp .l, 1) := by decide +kernel
theorem dX4_isOffset_15 : decode cX4_isOffset 15 = .ok (.ifCond .lt 32, 3) := by decide +kernel
theorem dX4_isOffset_18 : decode cX4_isOffset 18 = .ok (.aload_n 0, 1) := by decide +kernel
theorem dX4_isOffset_19 : decode cX4_isOffset 19 = .ok (.getfield 7, 3) := by decide +kernel
theorem dX4_isOffset_22 : decode cX4_isOffset 22 = .ok (.ldc2_w 54, 3) := by decide +kernel
theorem dX4_isOffset_25 : decode cX4_isOffset 25 = .ok (.dcmp .g, 1) := by decide +kernel
theorem dX4_isOffset_26 : decode cX4_isOffset 26 = .ok (.ifCond .gt 21, 3) := by decide +kernel
theorem dX4_isOffset_29 : decode cX4_isOffset 29 = .ok (.aload_n 0, 1) := by decide +kernel
theorem dX4_isOffset_30 : decode cX4_isOffset 30 = .ok (.getfield 7, 3) := by decide +kernel
theorem dX4_isOffset_33 : decode cX4_isOffset 33 = .ok (.aload_n 0, 1) := by decide +kernel
theorem dX4_isOffset_34 : decode cX4_isOffset 34 = .ok (.getfield 7, 3) := by decide +kernel
theorem dX4_isOffset_37 : decode cX4_isOffset 37 = .ok (.d2i, 1) := by decide +kernel
theorem dX4_isOffset_38 : decode cX4_isOffset 38 = .ok (.i2d, 1) := by decide +kernel
theorem dX4_isOffset_39 : decode cX4_isOffset 39 = .ok (.dcmp .l, 1) := by decide +kernel
theorem dX4_isOffset_40 : decode cX4_isOffset 40 = .ok (.ifCond .ne 7, 3) := by decide +kernel
theorem dX4_isOffset_43 : decode cX4_isOffset 43 = .ok (.iconst 1, 1) := by decide +kernel
theorem dX4_isOffset_44 : decode cX4_isOffset 44 = .ok (.goto 4, 3) := by decide +kernel
theorem dX4_isOffset_47 : decode cX4_isOffset 47 = .ok (.iconst 0, 1) := by decide +kernel
theorem dX4_isOffset_48 : decode cX4_isOffset 48 = .ok (.ireturn, 1) := by decide +kernel
def pX4_isOffset (g : MT) (h : CT) (this : Nat) : Option Int32 := tg g this 4 (if (hI h this 1) = 0 then if (Op.cmpValue (FP.dcmp (hD h this 0) 13920209183539462144) .l) < 0 then some 0 else if 0 < (Op.cmpValue (FP.dcmp (hD h this 0) 4696837146684686336) .g) then some 0 else if (Op.cmpValue (FP.dcmp (hD h this 0) (fi2d (FP.d2i (hD h this 0)))) .l) = 0 then some 1 else some 0 else some 0)
set_option maxRecDepth 10000 in
set_option maxHeartbeats 4000000 in
theorem pX4_isOffset_ok (G : Gx) (dk : Nat) (hK : 0 ≤ dk) {g : MT} {h : CT} {this : Nat} {r0 : Int32} (hf : pX4_isOffset g h this = some r0) : Ctr G dk yX4_isOffset cX4_isOffset 1 (some .boolean) [va_rf (some this)] g h (some (.int r0)) g h := by
  refine Ctr.ofZ (lv := [(0, va_rf (some this))]) (by decide +kernel) (by simp [cat_i, cat_l, cat_d, cat_rf]) rfl fun X Z => ?_
  unfold pX4_isOffset at hf
  replace hf := tg_i hf
  obtain ⟨t0, hf⟩ := hf
  refine J_aload_n Z.1 0 dX4_isOffset_0 rfl rfl ?_
  refine J_get (v := .int (hI h this 1)) Z.1 dX4_isOffset_1 fl_X4_13 t0 rfl ?_
  refine J_if_ne Z.1 47 dX4_isOffset_4 (by decide) (fun c1 => ?_) (fun c1 => ?_)
  · rw [if_neg c1] at hf
    refine J_iconst Z.1 (v := 0) (by decide) dX4_isOffset_47 ?_
    cases hf
    exact J_zret Z.1 Z.2.2.2.2.2 (z_n (Or.inl rfl)) dX4_isOffset_48
  · rw [if_pos c1] at hf
    refine J_aload_n Z.1 0 dX4_isOffset_7 rfl rfl ?_
    refine J_get (v := .double (hD h this 0)) Z.1 dX4_isOffset_8 fl_X4_7 t0 rfl ?_
    refine J_ldc2d Z.1 q_1132 (by decide +kernel) dX4_isOffset_11 ?_
    refine J_dcmp Z.1 dX4_isOffset_14 ?_
    refine J_if_lt Z.1 47 dX4_isOffset_15 (by decide) (fun c2 => ?_) (fun c2 => ?_)
    · rw [if_pos c2] at hf
      refine J_iconst Z.1 (v := 0) (by decide) dX4_isOffset_47 ?_
      cases hf
      exact J_zret Z.1 Z.2.2.2.2.2 (z_n (Or.inl rfl)) dX4_isOffset_48
    · rw [if_neg c2] at hf
      refine J_aload_n Z.1 0 dX4_isOffset_18 rfl rfl ?_
      refine J_get (v := .double (hD h this 0)) Z.1 dX4_isOffset_19 fl_X4_7 t0 rfl ?_
      refine J_ldc2d Z.1 q_1133 (by decide +kernel) dX4_isOffset_22 ?_
      refine J_dcmp Z.1 dX4_isOffset_25 ?_
      refine J_if_gt Z.1 47 dX4_isOffset_26 (by decide) (fun c3 => ?_) (fun c3 => ?_)
      · rw [if_pos c3] at hf
        refine J_iconst Z.1 (v := 0) (by decide) dX4_isOffset_47 ?_
        cases hf
        exact J_zret Z.1 Z.2.2.2.2.2 (z_n (Or.inl rfl)) dX4_isOffset_48
      · rw [if_neg c3] at hf
        refine J_aload_n Z.1 0 dX4_isOffset_29 rfl rfl ?_
        refine J_get (v := .double (hD h this 0)) Z.1 dX4_isOffset_30 fl_X4_7 t0 rfl ?_
        refine J_aload_n Z.1 0 dX4_isOffset_33 rfl rfl ?_
        refine J_get (v := .double (hD h this 0)) Z.1 dX4_isOffset_34 fl_X4_7 t0 rfl ?_
        refine J_d2i Z.1 dX4_isOffset_37 ?_
        refine J_i2d Z.1 dX4_isOffset_38 ?_
        refine J_dcmp Z.1 dX4_isOffset_39 ?_
        refine J_if_ne Z.1 47 dX4_isOffset_40 (by decide) (fun c4 => ?_) (fun c4 => ?_)
        · rw [if_neg c4] at hf
          refine J_iconst Z.1 (v := 0) (by decide) dX4_isOffset_47 ?_
          cases hf
          exact J_zret Z.1 Z.2.2.2.2.2 (z_n (Or.inl rfl)) dX4_isOffset_48
        · rw [if_pos c4] at hf
          refine J_iconst Z.1 (v := 1) (by decide) dX4_isOffset_43 ?_
          refine J_goto Z.1 48 dX4_isOffset_44 (by decide) ?_
          cases hf
          exact J_zret Z.1 Z.2.2.2.2.2 (z_n (Or.inr rfl)) dX4_isOffset_48
theorem dX5_does_0 : decode cX5_does 0 = .ok (.aload_n 0, 1) := by decide +kernel
theorem dX5_does_1 : decode cX5_does 1 = .ok (.getfield 120, 3) := by decide +kernel
theorem dX5_does_4 : decode cX5_does 4 = .ok (.iload_n 1, 1) := by decide +kernel
theorem dX5_does_5 : decode cX5_does 5 = .ok (.iand, 1) := by decide +kernel
theorem dX5_does_6 : decode cX5_does 6 = .ok (.ifCond .eq 7, 3) := by decide +kernel
theorem dX5_does_9 : decode cX5_does 9 = .ok (.iconst 1, 1) := by decide +kernel
theorem dX5_does_10 : decode cX5_does 10 = .ok (.goto 4, 3) := by decide +kernel
theorem dX5_does_13 : decode cX5_does 13 = .ok (.iconst 0, 1) := by decide +kernel
theorem dX5_does_14 : decode cX5_does 14 = .ok (.ireturn, 1) := by decide +kernel
def pX5_does (E : EC) (g : MT) (h : CT) (this : Nat) (p1 : Int32) : Option Int32 := tg E.2.2 this 60 (if ((hI E.2.1 this 1) &&& p1) = 0 then some 0 else some 1)
set_option maxRecDepth 10000 in
set_option maxHeartbeats 4000000 in
theorem pX5_does_ok (G : Gx) (dk : Nat) (hK : 0 ≤ dk) {g : MT} {E : EC} (hE : G.2.2.2 = E) {h : CT} {this : Nat} {p1 : Int32} {r0 : Int32} (hf : pX5_does E g h this p1 = some r0) : Ctr G dk yX5_does cX5_does 2 (some .boolean) [va_rf (some this), .int p1] g h (some (.int r0)) g h := by
  refine Ctr.ofZ (lv := [(0, va_rf (some this)), (1, .int p1)]) (by decide +kernel) (by simp [cat_i, cat_l, cat_d, cat_rf]) rfl fun X Z => ?_
  unfold pX5_does at hf
  refine J_aload_n Z.1 0 dX5_does_0 rfl rfl ?_
  replace hf := tg_i hf
  obtain ⟨t1, hf⟩ := hf
  rw [← zE Z hE] at t1
  refine J_getO (k := 1) (v := .int (hI E.2.1 this 1)) Z.1 dX5_does_1 rfl t1 q_2181 (by rw [zE Z hE]; rfl) rfl ?_
  refine J_iload_n Z.1 1 dX5_does_4 rfl rfl ?_
  refine J_iand Z.1 dX5_does_5 ?_
  refine J_if_eq Z.1 13 dX5_does_6 (by decide) (fun c2 => ?_) (fun c2 => ?_)
  · rw [if_pos c2] at hf
    refine J_iconst Z.1 (v := 0) (by decide) dX5_does_13 ?_
    cases hf
    exact J_zret Z.1 Z.2.2.2.2.2 (z_n (Or.inl rfl)) dX5_does_14
  · rw [if_neg c2] at hf
    refine J_iconst Z.1 (v := 1) (by decide) dX5_does_9 ?_
    refine J_goto Z.1 14 dX5_does_10 (by decide) ?_
    cases hf
    exact J_zret Z.1 Z.2.2.2.2.2 (z_n (Or.inr rfl)) dX5_does_14
theorem dX5_latency_0 : decode cX5_latency 0 = .ok (.aload_n 0, 1) := by decide +kernel
theorem dX5_latency_1 : decode cX5_latency 1 = .ok (.getfield 116, 3) := by decide +kernel
theorem dX5_latency_4 : decode cX5_latency 4 = .ok (.ifCond .lt 25, 3) := by decide +kernel
theorem dX5_latency_7 : decode cX5_latency 7 = .ok (.aload_n 0, 1) := by decide +kernel
theorem dX5_latency_8 : decode cX5_latency 8 = .ok (.getfield 116, 3) := by decide +kernel
theorem dX5_latency_11 : decode cX5_latency 11 = .ok (.getstatic 123, 3) := by decide +kernel
theorem dX5_latency_14 : decode cX5_latency 14 = .ok (.arraylength, 1) := by decide +kernel
theorem dX5_latency_15 : decode cX5_latency 15 = .ok (.if_icmp .ge 14, 3) := by decide +kernel
theorem dX5_latency_18 : decode cX5_latency 18 = .ok (.getstatic 123, 3) := by decide +kernel
theorem dX5_latency_21 : decode cX5_latency 21 = .ok (.aload_n 0, 1) := by decide +kernel
theorem dX5_latency_22 : decode cX5_latency 22 = .ok (.getfield 116, 3) := by decide +kernel
theorem dX5_latency_25 : decode cX5_latency 25 = .ok (.iaload, 1) := by decide +kernel
theorem dX5_latency_26 : decode cX5_latency 26 = .ok (.goto 4, 3) := by decide +kernel
theorem dX5_latency_29 : decode cX5_latency 29 = .ok (.iconst 0, 1) := by decide +kernel
theorem dX5_latency_30 : decode cX5_latency 30 = .ok (.ireturn, 1) := by decide +kernel
def pX5_latency (E : EC) (g : MT) (h : CT) (this : Nat) : Option Int32 := tg E.2.2 this 60 (if (hI E.2.1 this 2) < 0 then some 0 else kR (E.1 0) fun a3 => (tg E.2.2 a3 20 (if (Int32.ofNat (gL E.2.2 a3)) ≤ (hI E.2.1 this 2) then some 0 else kR (E.1 0) fun a6 => (tg E.2.2 a6 20 (ix (gL E.2.2 a6) (hI E.2.1 this 2) (some (hI E.2.1 a6 (Int32.toNatClampNeg (hI E.2.1 this 2)))))))))
set_option maxRecDepth 10000 in
set_option maxHeartbeats 4000000 in
theorem pX5_latency_ok (G : Gx) (dk : Nat) (hK : 0 ≤ dk) {g : MT} {E : EC} (hE : G.2.2.2 = E) {h : CT} {this : Nat} {r0 : Int32} (hf : pX5_latency E g h this = some r0) : Ctr G dk yX5_latency cX5_latency 1 (some .int) [va_rf (some this)] g h (some (.int r0)) g h := by
  refine Ctr.ofZ (lv := [(0, va_rf (some this))]) (by decide +kernel) (by simp [cat_i, cat_l, cat_d, cat_rf]) rfl fun X Z => ?_
  unfold pX5_latency at hf
  refine J_aload_n Z.1 0 dX5_latency_0 rfl rfl ?_
  replace hf := tg_i hf
  obtain ⟨t1, hf⟩ := hf
  rw [← zE Z hE] at t1
  refine J_getO (k := 2) (v := .int (hI E.2.1 this 2)) Z.1 dX5_latency_1 rfl t1 q_2184 (by rw [zE Z hE]; rfl) rfl ?_
  refine J_if_lt Z.1 29 dX5_latency_4 (by decide) (fun c2 => ?_) (fun c2 => ?_)
  · rw [if_pos c2] at hf
    refine J_iconst Z.1 (v := 0) (by decide) dX5_latency_29 ?_
    cases hf
    exact J_iret Z.1 Z.2.2.2.2.2 dX5_latency_30
  · rw [if_neg c2] at hf
    refine J_aload_n Z.1 0 dX5_latency_7 rfl rfl ?_
    refine J_getO (k := 2) (v := .int (hI E.2.1 this 2)) Z.1 dX5_latency_8 rfl t1 q_2184 (by rw [zE Z hE]; rfl) rfl ?_
    replace hf := kR_i hf
    obtain ⟨a3, ea3, hf⟩ := hf
    refine J_getsN (i := 0) (v := va_rf (some a3)) Z.1 dX5_latency_11 rfl (kn3 Z.1) (zEv Z hE ea3) rfl ?_
    replace hf := tg_i hf
    obtain ⟨t4, hf⟩ := hf
    rw [← zE Z hE] at t4
    refine J_alenK (t := 0) Z.1 dX5_latency_14 t4 rfl ?_
    rw [zE Z hE]
    refine J_icmp_ge Z.1 29 dX5_latency_15 (by decide) (fun c5 => ?_) (fun c5 => ?_)
    · rw [if_pos c5] at hf
      refine J_iconst Z.1 (v := 0) (by decide) dX5_latency_29 ?_
      cases hf
      exact J_iret Z.1 Z.2.2.2.2.2 dX5_latency_30
    · rw [if_neg c5] at hf
      replace hf := kR_i hf
      obtain ⟨a6, ea6, hf⟩ := hf
      refine J_getsN (i := 0) (v := va_rf (some a6)) Z.1 dX5_latency_18 rfl (kn3 Z.1) (zEv Z hE ea6) rfl ?_
      refine J_aload_n Z.1 0 dX5_latency_21 rfl rfl ?_
      refine J_getO (k := 2) (v := .int (hI E.2.1 this 2)) Z.1 dX5_latency_22 rfl t1 q_2184 (by rw [zE Z hE]; rfl) rfl ?_
      replace hf := tg_i hf
      obtain ⟨t7, hf⟩ := hf
      rw [← zE Z hE] at t7
      replace hf := ix_i hf
      obtain ⟨i8, hf⟩ := hf
      refine J_ialdK Z.1 dX5_latency_25 t7 (by rw [zE Z hE]; exact i8) ?_
      rw [zE Z hE]
      refine J_goto Z.1 30 dX5_latency_26 (by decide) ?_
      cases hf
      exact J_iret Z.1 Z.2.2.2.2.2 dX5_latency_30
theorem dX5_steers_0 : decode cX5_steers 0 = .ok (.aload_n 0, 1) := by decide +kernel
theorem dX5_steers_1 : decode cX5_steers 1 = .ok (.getstatic 81, 3) := by decide +kernel
theorem dX5_steers_4 : decode cX5_steers 4 = .ok (.if_acmp .eq 17, 3) := by decide +kernel
theorem dX5_steers_7 : decode cX5_steers 7 = .ok (.aload_n 0, 1) := by decide +kernel
theorem dX5_steers_8 : decode cX5_steers 8 = .ok (.getstatic 84, 3) := by decide +kernel
theorem dX5_steers_11 : decode cX5_steers 11 = .ok (.if_acmp .eq 10, 3) := by decide +kernel
theorem dX5_steers_14 : decode cX5_steers 14 = .ok (.aload_n 0, 1) := by decide +kernel
theorem dX5_steers_15 : decode cX5_steers 15 = .ok (.getstatic 87, 3) := by decide +kernel
theorem dX5_steers_18 : decode cX5_steers 18 = .ok (.if_acmp .ne 7, 3) := by decide +kernel
theorem dX5_steers_21 : decode cX5_steers 21 = .ok (.iconst 1, 1) := by decide +kernel
theorem dX5_steers_22 : decode cX5_steers 22 = .ok (.goto 4, 3) := by decide +kernel
theorem dX5_steers_25 : decode cX5_steers 25 = .ok (.iconst 0, 1) := by decide +kernel
theorem dX5_steers_26 : decode cX5_steers 26 = .ok (.ireturn, 1) := by decide +kernel
def pX5_steers_b21 (E : EC) (g : MT) (h : CT) (this : Nat)  : Option Int32 := some 1
set_option maxRecDepth 10000 in
set_option maxHeartbeats 4000000 in
theorem pX5_steers_b21_ok {X : Cx} {G : Gx} {dk : Nat} {g : MT} {r0 : Int32} {h : CT} {this : Nat} (Z : Zx X G cX5_steers RX5 1 dk (some .boolean) (some (.int r0)) g h) (hK : 0 ≤ dk) {E : EC} (hE : G.2.2.2 = E)  (hf : pX5_steers_b21 E g h this = some r0) : J X g h 21 [] [] := by
  unfold pX5_steers_b21 at hf
  refine J_iconst Z.1 (v := 1) (by decide) dX5_steers_21 ?_
  refine J_goto Z.1 26 dX5_steers_22 (by decide) ?_
  cases hf
  exact J_zret Z.1 Z.2.2.2.2.2 (z_n (Or.inr rfl)) dX5_steers_26
def pX5_steers (E : EC) (g : MT) (h : CT) (this : Nat) : Option Int32 := kR (E.1 30) fun a1 => (if (some this) = (some a1) then pX5_steers_b21 E g h this   else kR (E.1 31) fun a3 => (if (some this) = (some a3) then pX5_steers_b21 E g h this   else kR (E.1 32) fun a5 => (if (some this) = (some a5) then pX5_steers_b21 E g h this   else some 0)))
set_option maxRecDepth 10000 in
set_option maxHeartbeats 4000000 in
theorem pX5_steers_ok (G : Gx) (dk : Nat) (hK : 0 ≤ dk) {g : MT} {E : EC} (hE : G.2.2.2 = E) {h : CT} {this : Nat} {r0 : Int32} (hf : pX5_steers E g h this = some r0) : Ctr G dk yX5_steers cX5_steers 1 (some .boolean) [va_rf (some this)] g h (some (.int r0)) g h := by
  refine Ctr.ofZ (lv := [(0, va_rf (some this))]) (by decide +kernel) (by simp [cat_i, cat_l, cat_d, cat_rf]) rfl fun X Z => ?_
  unfold pX5_steers at hf
  refine J_aload_n Z.1 0 dX5_steers_0 rfl rfl ?_
  replace hf := kR_i hf
  obtain ⟨a1, ea1, hf⟩ := hf
  refine J_gets (i := 30) (v := va_rf (some a1)) Z.1 dX5_steers_1 rfl q_1338 (zEv Z hE ea1) rfl ?_
  refine J_acmp_eq Z.1 21 dX5_steers_4 (by decide) (fun c2 => ?_) (fun c2 => ?_)
  · rw [if_pos c2] at hf
    refine J_lv [] rfl ?_
    exact pX5_steers_b21_ok Z hK hE   hf
  · rw [if_neg c2] at hf
    refine J_aload_n Z.1 0 dX5_steers_7 rfl rfl ?_
    replace hf := kR_i hf
    obtain ⟨a3, ea3, hf⟩ := hf
    refine J_gets (i := 31) (v := va_rf (some a3)) Z.1 dX5_steers_8 rfl q_1339 (zEv Z hE ea3) rfl ?_
    refine J_acmp_eq Z.1 21 dX5_steers_11 (by decide) (fun c4 => ?_) (fun c4 => ?_)
    · rw [if_pos c4] at hf
      refine J_lv [] rfl ?_
      exact pX5_steers_b21_ok Z hK hE   hf
    · rw [if_neg c4] at hf
      refine J_aload_n Z.1 0 dX5_steers_14 rfl rfl ?_
      replace hf := kR_i hf
      obtain ⟨a5, ea5, hf⟩ := hf
      refine J_gets (i := 32) (v := va_rf (some a5)) Z.1 dX5_steers_15 rfl q_1340 (zEv Z hE ea5) rfl ?_
      refine J_acmp_ne Z.1 25 dX5_steers_18 (by decide) (fun c6 => ?_) (fun c6 => ?_)
      · rw [if_neg c6] at hf
        refine J_iconst Z.1 (v := 0) (by decide) dX5_steers_25 ?_
        cases hf
        exact J_zret Z.1 Z.2.2.2.2.2 (z_n (Or.inl rfl)) dX5_steers_26
      · rw [if_pos c6] at hf
        refine J_lv [] rfl ?_
        exact pX5_steers_b21_ok Z hK hE   hf
theorem dX8_init_0 : decode cX8_init 0 = .ok (.aload_n 0, 1) := by decide +kernel
theorem dX8_init_1 : decode cX8_init 1 = .ok (.invokespecial 1, 3) := by decide +kernel
theorem dX8_init_4 : decode cX8_init 4 = .ok (.iload_n 1, 1) := by decide +kernel
theorem dX8_init_5 : decode cX8_init 5 = .ok (.iconst 0, 1) := by decide +kernel
theorem dX8_init_6 : decode cX8_init 6 = .ok (.invokestatic 7, 3) := by decide +kernel
theorem dX8_init_9 : decode cX8_init 9 = .ok (.istore_n 2, 1) := by decide +kernel
theorem dX8_init_10 : decode cX8_init 10 = .ok (.aload_n 0, 1) := by decide +kernel
theorem dX8_init_11 : decode cX8_init 11 = .ok (.iload_n 2, 1) := by decide +kernel
theorem dX8_init_12 : decode cX8_init 12 = .ok (.newarray .double, 2) := by decide +kernel
theorem dX8_init_14 : decode cX8_init 14 = .ok (.putfield 13, 3) := by decide +kernel
theorem dX8_init_17 : decode cX8_init 17 = .ok (.aload_n 0, 1) := by decide +kernel
theorem dX8_init_18 : decode cX8_init 18 = .ok (.iload_n 2, 1) := by decide +kernel
theorem dX8_init_19 : decode cX8_init 19 = .ok (.newarray .boolean, 2) := by decide +kernel
theorem dX8_init_21 : decode cX8_init 21 = .ok (.putfield 19, 3) := by decide +kernel
theorem dX8_init_24 : decode cX8_init 24 = .ok (.return_, 1) := by decide +kernel
def pX8_init (g : MT) (h : CT) (this : Nat) (p1 : Int32) : Option (MT × CT) := gq Prod.fst g (lt (pJ9_max_7cf53 p1 0) fun x1 => (na x1 (gq Prod.fst (gA g 22 (Int32.toNatClampNeg x1)) (lt (gA g 22 (Int32.toNatClampNeg x1)) fun g2 => (lt (hZ h (gN g)) fun h3 => (lt (gN g) fun a4 => (tg g2 this 7 (lt (sR h3 this 0 (some a4)) fun h9 => (na x1 (gq Prod.fst (gA g2 24 (Int32.toNatClampNeg x1)) (lt (gA g2 24 (Int32.toNatClampNeg x1)) fun g10 => (lt (hZ h9 (gN g2)) fun h11 => (lt (gN g2) fun a12 => (tg g10 this 7 (lt (sR h11 this 1 (some a12)) fun h17 => (some (g10, h17)))))))))))))))))
theorem pX8_init_mono {g g0 : MT} {h h0 : CT} {this : Nat} {p1 : Int32} (hf : pX8_init g h this p1 = some (g0, h0)) : gN g ≤ gN g0 ∧ gU g ≤ gU g0 := by
  unfold pX8_init at hf
  exact (gq_i hf).1
set_option maxRecDepth 10000 in
set_option maxHeartbeats 4000000 in
theorem pX8_init_ok (G : Gx) (dk : Nat) (hK : 1 ≤ dk) {g g0 : MT} {h h0 : CT} {this : Nat} {p1 : Int32} (hf : pX8_init g h this p1 = some (g0, h0)) : Ctr G dk yX8_init cX8_init 3 none [va_rf (some this), .int p1] g h none g0 h0 := by
  unfold pX8_init at hf
  replace hf := gq_i hf
  obtain ⟨hm, hf⟩ := hf
  refine Ctr.ofY (lv := [(0, va_rf (some this)), (1, .int p1)]) (by decide +kernel) (by simp [cat_i, cat_l, cat_d, cat_rf]) rfl hm fun X Z M => ?_
  refine J_aload_n Z.1 0 dX8_init_0 rfl rfl ?_
  refine J_objInit Z.1 dX8_init_1 q_254 q_168 q_169 (yO2 Z (by omega) (by simp [cat_i, cat_l, cat_d, cat_rf])) (yF Z (d := 0) (by omega)) ?_
  refine J_iload_n Z.1 1 dX8_init_4 rfl rfl ?_
  refine J_iconst Z.1 (v := 0) (by decide) dX8_init_5 ?_
  refine J_callS (as := [.int p1, .int 0]) (rest := []) (sy := [.int (pJ9_max_7cf53 p1 0)]) Z.1 dX8_init_6 cw_X8_7 (pJ9_max_7cf53_ok G (dk - 1) (by omega) g h p1 0) (yG Z) rfl (by decide) (yF Z (by omega)) (yO Z (by omega) (by decide)) (zM _) M M rfl rfl ?_
  refine J_ti (fun x1 ex1 => ?_)
  replace hf := lt_i hf x1 ex1
  refine J_istore_n Z.1 (lv2 := [(2, .int x1), (0, va_rf (some this)), (1, .int p1)]) dX8_init_9 rfl (yL Z (by decide)) rfl ?_
  refine J_aload_n Z.1 1 dX8_init_10 rfl rfl ?_
  refine J_iload_n Z.1 0 dX8_init_11 rfl rfl ?_
  replace hf := na_i hf
  obtain ⟨z7, hf⟩ := hf
  replace hf := gq_i hf
  obtain ⟨n5, hf⟩ := hf
  have M6 := rmA Z M n5
  refine J_newa (t := 2) (N := (Int32.toNatClampNeg x1)) .double Z.1 dX8_init_12 rfl rfl (by decide) (fun _ q => by cases q) q_265 z7.1 rfl (naB z7.2 (by decide)) M M6 ?_
  refine J_tg (fun g2 eg2 => ?_)
  rw [← eg2] at M6
  replace hf := lt_i hf g2 eg2
  refine J_th (fun h3 eh3 => ?_)
  replace hf := lt_i hf h3 eh3
  refine J_ta (fun a4 ea4 => ?_)
  replace hf := lt_i hf a4 ea4
  replace hf := tg_i hf
  obtain ⟨t8, hf⟩ := hf
  refine J_putR Z.1 dX8_init_14 fl_X8_13 (fun _ => ⟨Z.2.2.2.2.2.2.2, _, rfl, rfl⟩) t8 (Or.inr ⟨_, rfl⟩) ?_
  refine J_th (fun h9 eh9 => ?_)
  replace hf := lt_i hf h9 eh9
  refine J_aload_n Z.1 1 dX8_init_17 rfl rfl ?_
  refine J_iload_n Z.1 0 dX8_init_18 rfl rfl ?_
  replace hf := na_i hf
  obtain ⟨z15, hf⟩ := hf
  replace hf := gq_i hf
  obtain ⟨n13, hf⟩ := hf
  have M14 := rmA Z M6 n13
  refine J_newa (t := 4) (N := (Int32.toNatClampNeg x1)) .boolean Z.1 dX8_init_19 rfl rfl (by decide) (fun _ q => by cases q) q_266 z15.1 rfl (naB z15.2 (by decide)) M6 M14 ?_
  refine J_tg (fun g10 eg10 => ?_)
  rw [← eg10] at M14
  replace hf := lt_i hf g10 eg10
  refine J_th (fun h11 eh11 => ?_)
  replace hf := lt_i hf h11 eh11
  refine J_ta (fun a12 ea12 => ?_)
  replace hf := lt_i hf a12 ea12
  replace hf := tg_i hf
  obtain ⟨t16, hf⟩ := hf
  refine J_putR Z.1 dX8_init_21 fl_X8_19 (fun _ => ⟨Z.2.2.2.2.2.2.2, _, rfl, rfl⟩) t16 (Or.inr ⟨_, rfl⟩) ?_
  refine J_th (fun h17 eh17 => ?_)
  replace hf := lt_i hf h17 eh17
  cases hf
  exact J_vret Z.1 Z.2.2.2.2.1 dX8_init_24
theorem dX8_fetch_0 : decode cX8_fetch 0 = .ok (.iload_n 1, 1) := by decide +kernel
theorem dX8_fetch_1 : decode cX8_fetch 1 = .ok (.ifCond .lt 41, 3) := by decide +kernel
theorem dX8_fetch_4 : decode cX8_fetch 4 = .ok (.iload_n 1, 1) := by decide +kernel
theorem dX8_fetch_5 : decode cX8_fetch 5 = .ok (.aload_n 0, 1) := by decide +kernel
theorem dX8_fetch_6 : decode cX8_fetch 6 = .ok (.getfield 13, 3) := by decide +kernel
theorem dX8_fetch_9 : decode cX8_fetch 9 = .ok (.arraylength, 1) := by decide +kernel
theorem dX8_fetch_10 : decode cX8_fetch 10 = .ok (.if_icmp .ge 32, 3) := by decide +kernel
theorem dX8_fetch_13 : decode cX8_fetch 13 = .ok (.iload_n 1, 1) := by decide +kernel
theorem dX8_fetch_14 : decode cX8_fetch 14 = .ok (.aload_n 0, 1) := by decide +kernel
theorem dX8_fetch_15 : decode cX8_fetch 15 = .ok (.getfield 19, 3) := by decide +kernel
theorem dX8_fetch_18 : decode cX8_fetch 18 = .ok (.arraylength, 1) := by decide +kernel
theorem dX8_fetch_19 : decode cX8_fetch 19 = .ok (.if_icmp .ge 23, 3) := by decide +kernel
theorem dX8_fetch_22 : decode cX8_fetch 22 = .ok (.aload_n 2, 1) := by decide +kernel
theorem dX8_fetch_23 : decode cX8_fetch 23 = .ok (.aload_n 0, 1) := by decide +kernel
theorem dX8_fetch_24 : decode cX8_fetch 24 = .ok (.getfield 13, 3) := by decide +kernel
theorem dX8_fetch_27 : decode cX8_fetch 27 = .ok (.iload_n 1, 1) := by decide +kernel
theorem dX8_fetch_28 : decode cX8_fetch 28 = .ok (.daload, 1) := by decide +kernel
theorem dX8_fetch_29 : decode cX8_fetch 29 = .ok (.putfield 23, 3) := by decide +kernel
theorem dX8_fetch_32 : decode cX8_fetch 32 = .ok (.aload_n 2, 1) := by decide +kernel
theorem dX8_fetch_33 : decode cX8_fetch 33 = .ok (.aload_n 0, 1) := by decide +kernel
theorem dX8_fetch_34 : decode cX8_fetch 34 = .ok (.getfield 19, 3) := by decide +kernel
theorem dX8_fetch_37 : decode cX8_fetch 37 = .ok (.iload_n 1, 1) := by decide +kernel
theorem dX8_fetch_38 : decode cX8_fetch 38 = .ok (.baload, 1) := by decide +kernel
theorem dX8_fetch_39 : decode cX8_fetch 39 = .ok (.putfield 29, 3) := by decide +kernel
theorem dX8_fetch_42 : decode cX8_fetch 42 = .ok (.return_, 1) := by decide +kernel
def pX8_fetch (g : MT) (h : CT) (this : Nat) (p1 : Int32) (p2 : Nat) : Option CT := tg g this 7 (if p1 < 0 then some h else lt (hR h this 0) fun r2 => (nn r2 fun a2 => (tg g a2 22 (if (Int32.ofNat (gL g a2)) ≤ p1 then some h else lt (hR h this 1) fun r5 => (nn r5 fun a5 => (tg g a5 24 (if (Int32.ofNat (gL g a5)) ≤ p1 then some h else lt (hR h this 0) fun r8 => (nn r8 fun a8 => (tg g a8 22 (ix (gL g a8) p1 (tg g p2 4 (lt (sD h p2 0 (hD h a8 (Int32.toNatClampNeg p1))) fun h12 => (lt (hR h12 this 1) fun r13 => (nn r13 fun a13 => (tg g a13 24 (ix (gL g a13) p1 (bz (hI h12 a13 (Int32.toNatClampNeg p1)) (lt (sI h12 p2 1 (hI h12 a13 (Int32.toNatClampNeg p1))) fun h17 => (some h17)))))))))))))))))))
set_option maxRecDepth 10000 in
set_option maxHeartbeats 4000000 in
theorem pX8_fetch_ok (G : Gx) (dk : Nat) (hK : 0 ≤ dk) {g : MT} {h h0 : CT} {this : Nat} {p1 : Int32} {p2 : Nat} (hf : pX8_fetch g h this p1 p2 = some h0) : Ctr G dk yX8_fetch cX8_fetch 3 none [va_rf (some this), .int p1, va_rf (some p2)] g h none g h0 := by
  refine Ctr.ofZ (lv := [(0, va_rf (some this)), (1, .int p1), (2, va_rf (some p2))]) (by decide +kernel) (by simp [cat_i, cat_l, cat_d, cat_rf]) rfl fun X Z => ?_
  unfold pX8_fetch at hf
  replace hf := tg_i hf
  obtain ⟨t0, hf⟩ := hf
  refine J_iload_n Z.1 1 dX8_fetch_0 rfl rfl ?_
  refine J_if_lt Z.1 42 dX8_fetch_1 (by decide) (fun c1 => ?_) (fun c1 => ?_)
  · rw [if_pos c1] at hf
    cases hf
    exact J_vret Z.1 Z.2.2.2.2.2 dX8_fetch_42
  · rw [if_neg c1] at hf
    refine J_iload_n Z.1 1 dX8_fetch_4 rfl rfl ?_
    refine J_aload_n Z.1 0 dX8_fetch_5 rfl rfl ?_
    refine J_get (v := va_rf (hR h this 0)) Z.1 dX8_fetch_6 fl_X8_13 t0 rfl ?_
    refine J_tr (fun r2 er2 => ?_)
    replace hf := lt_i hf r2 er2
    replace hf := nn_i hf
    obtain ⟨a2, rfl, hf⟩ := hf
    replace hf := tg_i hf
    obtain ⟨t3, hf⟩ := hf
    refine J_alen (t := 2) Z.1 dX8_fetch_9 t3 rfl ?_
    refine J_icmp_ge Z.1 42 dX8_fetch_10 (by decide) (fun c4 => ?_) (fun c4 => ?_)
    · rw [if_pos c4] at hf
      cases hf
      exact J_vret Z.1 Z.2.2.2.2.2 dX8_fetch_42
    · rw [if_neg c4] at hf
      refine J_iload_n Z.1 1 dX8_fetch_13 rfl rfl ?_
      refine J_aload_n Z.1 0 dX8_fetch_14 rfl rfl ?_
      refine J_get (v := va_rf (hR h this 1)) Z.1 dX8_fetch_15 fl_X8_19 t0 rfl ?_
      refine J_tr (fun r5 er5 => ?_)
      replace hf := lt_i hf r5 er5
      replace hf := nn_i hf
      obtain ⟨a5, rfl, hf⟩ := hf
      replace hf := tg_i hf
      obtain ⟨t6, hf⟩ := hf
      refine J_alen (t := 4) Z.1 dX8_fetch_18 t6 rfl ?_
      refine J_icmp_ge Z.1 42 dX8_fetch_19 (by decide) (fun c7 => ?_) (fun c7 => ?_)
      · rw [if_pos c7] at hf
        cases hf
        exact J_vret Z.1 Z.2.2.2.2.2 dX8_fetch_42
      · rw [if_neg c7] at hf
        refine J_aload_n Z.1 2 dX8_fetch_22 rfl rfl ?_
        refine J_aload_n Z.1 0 dX8_fetch_23 rfl rfl ?_
        refine J_get (v := va_rf (hR h this 0)) Z.1 dX8_fetch_24 fl_X8_13 t0 rfl ?_
        refine J_tr (fun r8 er8 => ?_)
        replace hf := lt_i hf r8 er8
        refine J_iload_n Z.1 1 dX8_fetch_27 rfl rfl ?_
        replace hf := nn_i hf
        obtain ⟨a8, rfl, hf⟩ := hf
        replace hf := tg_i hf
        obtain ⟨t9, hf⟩ := hf
        replace hf := ix_i hf
        obtain ⟨i10, hf⟩ := hf
        refine J_daload Z.1 dX8_fetch_28 t9 i10 ?_
        replace hf := tg_i hf
        obtain ⟨t11, hf⟩ := hf
        refine J_putD Z.1 dX8_fetch_29 fl_X8_23 (fun q => by cases q) t11 rfl ?_
        refine J_th (fun h12 eh12 => ?_)
        replace hf := lt_i hf h12 eh12
        refine J_aload_n Z.1 2 dX8_fetch_32 rfl rfl ?_
        refine J_aload_n Z.1 0 dX8_fetch_33 rfl rfl ?_
        refine J_get (v := va_rf (hR h12 this 1)) Z.1 dX8_fetch_34 fl_X8_19 t0 rfl ?_
        refine J_tr (fun r13 er13 => ?_)
        replace hf := lt_i hf r13 er13
        refine J_iload_n Z.1 1 dX8_fetch_37 rfl rfl ?_
        replace hf := nn_i hf
        obtain ⟨a13, rfl, hf⟩ := hf
        replace hf := tg_i hf
        obtain ⟨t14, hf⟩ := hf
        replace hf := ix_i hf
        obtain ⟨i15, hf⟩ := hf
        refine J_zaload Z.1 dX8_fetch_38 t14 i15 ?_
        replace hf := bz_i hf
        obtain ⟨z16, hf⟩ := hf
        refine J_putI Z.1 dX8_fetch_39 fl_X8_29 (fun q => by cases q) t11 (z_n z16) (z_f z16) (congrArg Value.int (hI_s _ _ _ _)) ?_
        refine J_th (fun h17 eh17 => ?_)
        replace hf := lt_i hf h17 eh17
        cases hf
        exact J_vret Z.1 Z.2.2.2.2.2 dX8_fetch_42
theorem dX8_keep_0 : decode cX8_keep 0 = .ok (.iload_n 1, 1) := by decide +kernel
theorem dX8_keep_1 : decode cX8_keep 1 = .ok (.ifCond .lt 41, 3) := by decide +kernel
theorem dX8_keep_4 : decode cX8_keep 4 = .ok (.iload_n 1, 1) := by decide +kernel
theorem dX8_keep_5 : decode cX8_keep 5 = .ok (.aload_n 0, 1) := by decide +kernel
theorem dX8_keep_6 : decode cX8_keep 6 = .ok (.getfield 13, 3) := by decide +kernel
theorem dX8_keep_9 : decode cX8_keep 9 = .ok (.arraylength, 1) := by decide +kernel
theorem dX8_keep_10 : decode cX8_keep 10 = .ok (.if_icmp .ge 32, 3) := by decide +kernel
theorem dX8_keep_13 : decode cX8_keep 13 = .ok (.iload_n 1, 1) := by decide +kernel
theorem dX8_keep_14 : decode cX8_keep 14 = .ok (.aload_n 0, 1) := by decide +kernel
theorem dX8_keep_15 : decode cX8_keep 15 = .ok (.getfield 19, 3) := by decide +kernel
theorem dX8_keep_18 : decode cX8_keep 18 = .ok (.arraylength, 1) := by decide +kernel
theorem dX8_keep_19 : decode cX8_keep 19 = .ok (.if_icmp .ge 23, 3) := by decide +kernel
theorem dX8_keep_22 : decode cX8_keep 22 = .ok (.aload_n 0, 1) := by decide +kernel
theorem dX8_keep_23 : decode cX8_keep 23 = .ok (.getfield 13, 3) := by decide +kernel
theorem dX8_keep_26 : decode cX8_keep 26 = .ok (.iload_n 1, 1) := by decide +kernel
theorem dX8_keep_27 : decode cX8_keep 27 = .ok (.aload_n 2, 1) := by decide +kernel
theorem dX8_keep_28 : decode cX8_keep 28 = .ok (.getfield 23, 3) := by decide +kernel
theorem dX8_keep_31 : decode cX8_keep 31 = .ok (.dastore, 1) := by decide +kernel
theorem dX8_keep_32 : decode cX8_keep 32 = .ok (.aload_n 0, 1) := by decide +kernel
theorem dX8_keep_33 : decode cX8_keep 33 = .ok (.getfield 19, 3) := by decide +kernel
theorem dX8_keep_36 : decode cX8_keep 36 = .ok (.iload_n 1, 1) := by decide +kernel
theorem dX8_keep_37 : decode cX8_keep 37 = .ok (.aload_n 2, 1) := by decide +kernel
theorem dX8_keep_38 : decode cX8_keep 38 = .ok (.getfield 29, 3) := by decide +kernel
theorem dX8_keep_41 : decode cX8_keep 41 = .ok (.bastore, 1) := by decide +kernel
theorem dX8_keep_42 : decode cX8_keep 42 = .ok (.return_, 1) := by decide +kernel
def pX8_keep (g : MT) (h : CT) (this : Nat) (p1 : Int32) (p2 : Nat) : Option CT := tg g this 7 (if p1 < 0 then some h else lt (hR h this 0) fun r2 => (nn r2 fun a2 => (tg g a2 22 (if (Int32.ofNat (gL g a2)) ≤ p1 then some h else lt (hR h this 1) fun r5 => (nn r5 fun a5 => (tg g a5 24 (if (Int32.ofNat (gL g a5)) ≤ p1 then some h else lt (hR h this 0) fun r8 => (tg g p2 4 (nn r8 fun a8 => (tg g a8 22 (ix (gL g a8) p1 (lt (sD h a8 (Int32.toNatClampNeg p1) (hD h p2 0)) fun h12 => (lt (hR h12 this 1) fun r13 => (nn r13 fun a13 => (tg g a13 24 (ix (gL g a13) p1 (lt (sI h12 a13 (Int32.toNatClampNeg p1) (vp_nar .boolean (hI h12 p2 1))) fun h16 => (some h16))))))))))))))))))
set_option maxRecDepth 10000 in
set_option maxHeartbeats 4000000 in
theorem pX8_keep_ok (G : Gx) (dk : Nat) (hK : 0 ≤ dk) {g : MT} {h h0 : CT} {this : Nat} {p1 : Int32} {p2 : Nat} (hf : pX8_keep g h this p1 p2 = some h0) : Ctr G dk yX8_keep cX8_keep 3 none [va_rf (some this), .int p1, va_rf (some p2)] g h none g h0 := by
  refine Ctr.ofZ (lv := [(0, va_rf (some this)), (1, .int p1), (2, va_rf (some p2))]) (by decide +kernel) (by simp [cat_i, cat_l, cat_d, cat_rf]) rfl fun X Z => ?_
  unfold pX8_keep at hf
  replace hf := tg_i hf
  obtain ⟨t0, hf⟩ := hf
  refine J_iload_n Z.1 1 dX8_keep_0 rfl rfl ?_
  refine J_if_lt Z.1 42 dX8_keep_1 (by decide) (fun c1 => ?_) (fun c1 => ?_)
  · rw [if_pos c1] at hf
    cases hf
    exact J_vret Z.1 Z.2.2.2.2.2 dX8_keep_42
  · rw [if_neg c1] at hf
    refine J_iload_n Z.1 1 dX8_keep_4 rfl rfl ?_
    refine J_aload_n Z.1 0 dX8_keep_5 rfl rfl ?_
    refine J_get (v := va_rf (hR h this 0)) Z.1 dX8_keep_6 fl_X8_13 t0 rfl ?_
    refine J_tr (fun r2 er2 => ?_)
    replace hf := lt_i hf r2 er2
    replace hf := nn_i hf
    obtain ⟨a2, rfl, hf⟩ := hf
    replace hf := tg_i hf
    obtain ⟨t3, hf⟩ := hf
    refine J_alen (t := 2) Z.1 dX8_keep_9 t3 rfl ?_
    refine J_icmp_ge Z.1 42 dX8_keep_10 (by decide) (fun c4 => ?_) (fun c4 => ?_)
    · rw [if_pos c4] at hf
      cases hf
      exact J_vret Z.1 Z.2.2.2.2.2 dX8_keep_42
    · rw [if_neg c4] at hf
      refine J_iload_n Z.1 1 dX8_keep_13 rfl rfl ?_
      refine J_aload_n Z.1 0 dX8_keep_14 rfl rfl ?_
      refine J_get (v := va_rf (hR h this 1)) Z.1 dX8_keep_15 fl_X8_19 t0 rfl ?_
      refine J_tr (fun r5 er5 => ?_)
      replace hf := lt_i hf r5 er5
      replace hf := nn_i hf
      obtain ⟨a5, rfl, hf⟩ := hf
      replace hf := tg_i hf
      obtain ⟨t6, hf⟩ := hf
      refine J_alen (t := 4) Z.1 dX8_keep_18 t6 rfl ?_
      refine J_icmp_ge Z.1 42 dX8_keep_19 (by decide) (fun c7 => ?_) (fun c7 => ?_)
      · rw [if_pos c7] at hf
        cases hf
        exact J_vret Z.1 Z.2.2.2.2.2 dX8_keep_42
      · rw [if_neg c7] at hf
        refine J_aload_n Z.1 0 dX8_keep_22 rfl rfl ?_
        refine J_get (v := va_rf (hR h this 0)) Z.1 dX8_keep_23 fl_X8_13 t0 rfl ?_
        refine J_tr (fun r8 er8 => ?_)
        replace hf := lt_i hf r8 er8
        refine J_iload_n Z.1 1 dX8_keep_26 rfl rfl ?_
        refine J_aload_n Z.1 2 dX8_keep_27 rfl rfl ?_
        replace hf := tg_i hf
        obtain ⟨t9, hf⟩ := hf
        refine J_get (v := .double (hD h p2 0)) Z.1 dX8_keep_28 fl_X8_23 t9 rfl ?_
        replace hf := nn_i hf
        obtain ⟨a8, rfl, hf⟩ := hf
        replace hf := tg_i hf
        obtain ⟨t10, hf⟩ := hf
        replace hf := ix_i hf
        obtain ⟨i11, hf⟩ := hf
        refine J_dastore Z.1 dX8_keep_31 t10 i11 ?_
        refine J_th (fun h12 eh12 => ?_)
        replace hf := lt_i hf h12 eh12
        refine J_aload_n Z.1 0 dX8_keep_32 rfl rfl ?_
        refine J_get (v := va_rf (hR h12 this 1)) Z.1 dX8_keep_33 fl_X8_19 t0 rfl ?_
        refine J_tr (fun r13 er13 => ?_)
        replace hf := lt_i hf r13 er13
        refine J_iload_n Z.1 1 dX8_keep_36 rfl rfl ?_
        refine J_aload_n Z.1 2 dX8_keep_37 rfl rfl ?_
        refine J_get (v := .int (hI h12 p2 1)) Z.1 dX8_keep_38 fl_X8_29 t9 rfl ?_
        replace hf := nn_i hf
        obtain ⟨a13, rfl, hf⟩ := hf
        replace hf := tg_i hf
        obtain ⟨t14, hf⟩ := hf
        replace hf := ix_i hf
        obtain ⟨i15, hf⟩ := hf
        refine J_zastore Z.1 dX8_keep_41 t14 i15 ?_
        refine J_th (fun h16 eh16 => ?_)
        replace hf := lt_i hf h16 eh16
        cases hf
        exact J_vret Z.1 Z.2.2.2.2.2 dX8_keep_42
theorem dX8_clear_0 : decode cX8_clear 0 = .ok (.iconst 0, 1) := by decide +kernel
theorem dX8_clear_1 : decode cX8_clear 1 = .ok (.istore_n 1, 1) := by decide +kernel
theorem dX8_clear_2 : decode cX8_clear 2 = .ok (.iload_n 1, 1) := by decide +kernel
theorem dX8_clear_3 : decode cX8_clear 3 = .ok (.aload_n 0, 1) := by decide +kernel
theorem dX8_clear_4 : decode cX8_clear 4 = .ok (.getfield 13, 3) := by decide +kernel
theorem dX8_clear_7 : decode cX8_clear 7 = .ok (.arraylength, 1) := by decide +kernel
theorem dX8_clear_8 : decode cX8_clear 8 = .ok (.if_icmp .ge 32, 3) := by decide +kernel
theorem dX8_clear_11 : decode cX8_clear 11 = .ok (.iload_n 1, 1) := by decide +kernel
theorem dX8_clear_12 : decode cX8_clear 12 = .ok (.aload_n 0, 1) := by decide +kernel
theorem dX8_clear_13 : decode cX8_clear 13 = .ok (.getfield 19, 3) := by decide +kernel
theorem dX8_clear_16 : decode cX8_clear 16 = .ok (.arraylength, 1) := by decide +kernel
theorem dX8_clear_17 : decode cX8_clear 17 = .ok (.if_icmp .ge 23, 3) := by decide +kernel
theorem dX8_clear_20 : decode cX8_clear 20 = .ok (.aload_n 0, 1) := by decide +kernel
theorem dX8_clear_21 : decode cX8_clear 21 = .ok (.getfield 13, 3) := by decide +kernel
theorem dX8_clear_24 : decode cX8_clear 24 = .ok (.iload_n 1, 1) := by decide +kernel
theorem dX8_clear_25 : decode cX8_clear 25 = .ok (.dconst 0, 1) := by decide +kernel
theorem dX8_clear_26 : decode cX8_clear 26 = .ok (.dastore, 1) := by decide +kernel
theorem dX8_clear_27 : decode cX8_clear 27 = .ok (.aload_n 0, 1) := by decide +kernel
theorem dX8_clear_28 : decode cX8_clear 28 = .ok (.getfield 19, 3) := by decide +kernel
theorem dX8_clear_31 : decode cX8_clear 31 = .ok (.iload_n 1, 1) := by decide +kernel
theorem dX8_clear_32 : decode cX8_clear 32 = .ok (.iconst 0, 1) := by decide +kernel
theorem dX8_clear_33 : decode cX8_clear 33 = .ok (.bastore, 1) := by decide +kernel
theorem dX8_clear_34 : decode cX8_clear 34 = .ok (.iinc 1 1, 3) := by decide +kernel
theorem dX8_clear_37 : decode cX8_clear 37 = .ok (.goto (-35), 3) := by decide +kernel
theorem dX8_clear_40 : decode cX8_clear 40 = .ok (.return_, 1) := by decide +kernel
def pX8_clear_b2 (g : MT) (this : Nat) (k2 : Int32 → CT → Option CT) (l1 : Int32) (h : CT) : Option CT := lt (hR h this 0) fun r1 => (nn r1 fun a1 => (tg g a1 22 (if (Int32.ofNat (gL g a1)) ≤ l1 then some h else lt (hR h this 1) fun r4 => (nn r4 fun a4 => (tg g a4 24 (if (Int32.ofNat (gL g a4)) ≤ l1 then some h else lt (hR h this 0) fun r7 => (nn r7 fun a7 => (tg g a7 22 (ix (gL g a7) l1 (lt (sD h a7 (Int32.toNatClampNeg l1) 0) fun h10 => (lt (hR h10 this 1) fun r11 => (nn r11 fun a11 => (tg g a11 24 (ix (gL g a11) l1 (lt (sI h10 a11 (Int32.toNatClampNeg l1) (vp_nar .boolean 0)) fun h14 => (lt (l1 + 1) fun x15 => (k2 x15 h14)))))))))))))))))
set_option maxRecDepth 10000 in
set_option maxHeartbeats 4000000 in
theorem pX8_clear_b2_ok {X : Cx} {G : Gx} {dk : Nat} {g : MT} {h0 : CT} {this : Nat} {k2 : Int32 → CT → Option CT} (Z : Zx X G cX8_clear RX8 2 dk none none g h0) (hK : 0 ≤ dk) (t0 : gT g this = 7) (hk2 : ∀ (l1 : Int32) (h : CT), k2 l1 h = some h0 → J X g h 2 [(0, va_rf (some this)), (1, .int l1)] []) (l1 : Int32) (h : CT) (hf : pX8_clear_b2 g this k2 l1 h = some h0) : J X g h 2 [(0, va_rf (some this)), (1, .int l1)] [] := by
  unfold pX8_clear_b2 at hf
  refine J_iload_n Z.1 1 dX8_clear_2 rfl rfl ?_
  refine J_aload_n Z.1 0 dX8_clear_3 rfl rfl ?_
  refine J_get (v := va_rf (hR h this 0)) Z.1 dX8_clear_4 fl_X8_13 t0 rfl ?_
  refine J_tr (fun r1 er1 => ?_)
  replace hf := lt_i hf r1 er1
  replace hf := nn_i hf
  obtain ⟨a1, rfl, hf⟩ := hf
  replace hf := tg_i hf
  obtain ⟨t2, hf⟩ := hf
  refine J_alen (t := 2) Z.1 dX8_clear_7 t2 rfl ?_
  refine J_icmp_ge Z.1 40 dX8_clear_8 (by decide) (fun c3 => ?_) (fun c3 => ?_)
  · rw [if_pos c3] at hf
    cases hf
    exact J_vret Z.1 Z.2.2.2.2.2 dX8_clear_40
  · rw [if_neg c3] at hf
    refine J_iload_n Z.1 1 dX8_clear_11 rfl rfl ?_
    refine J_aload_n Z.1 0 dX8_clear_12 rfl rfl ?_
    refine J_get (v := va_rf (hR h this 1)) Z.1 dX8_clear_13 fl_X8_19 t0 rfl ?_
    refine J_tr (fun r4 er4 => ?_)
    replace hf := lt_i hf r4 er4
    replace hf := nn_i hf
    obtain ⟨a4, rfl, hf⟩ := hf
    replace hf := tg_i hf
    obtain ⟨t5, hf⟩ := hf
    refine J_alen (t := 4) Z.1 dX8_clear_16 t5 rfl ?_
    refine J_icmp_ge Z.1 40 dX8_clear_17 (by decide) (fun c6 => ?_) (fun c6 => ?_)
    · rw [if_pos c6] at hf
      cases hf
      exact J_vret Z.1 Z.2.2.2.2.2 dX8_clear_40
    · rw [if_neg c6] at hf
      refine J_aload_n Z.1 0 dX8_clear_20 rfl rfl ?_
      refine J_get (v := va_rf (hR h this 0)) Z.1 dX8_clear_21 fl_X8_13 t0 rfl ?_
      refine J_tr (fun r7 er7 => ?_)
      replace hf := lt_i hf r7 er7
      refine J_iload_n Z.1 1 dX8_clear_24 rfl rfl ?_
      refine J_dconst0 Z.1 dX8_clear_25 ?_
      replace hf := nn_i hf
      obtain ⟨a7, rfl, hf⟩ := hf
      replace hf := tg_i hf
      obtain ⟨t8, hf⟩ := hf
      replace hf := ix_i hf
      obtain ⟨i9, hf⟩ := hf
      refine J_dastore Z.1 dX8_clear_26 t8 i9 ?_
      refine J_th (fun h10 eh10 => ?_)
      replace hf := lt_i hf h10 eh10
      refine J_aload_n Z.1 0 dX8_clear_27 rfl rfl ?_
      refine J_get (v := va_rf (hR h10 this 1)) Z.1 dX8_clear_28 fl_X8_19 t0 rfl ?_
      refine J_tr (fun r11 er11 => ?_)
      replace hf := lt_i hf r11 er11
      refine J_iload_n Z.1 1 dX8_clear_31 rfl rfl ?_
      refine J_iconst Z.1 (v := 0) (by decide) dX8_clear_32 ?_
      replace hf := nn_i hf
      obtain ⟨a11, rfl, hf⟩ := hf
      replace hf := tg_i hf
      obtain ⟨t12, hf⟩ := hf
      replace hf := ix_i hf
      obtain ⟨i13, hf⟩ := hf
      refine J_zastore Z.1 dX8_clear_33 t12 i13 ?_
      refine J_th (fun h14 eh14 => ?_)
      replace hf := lt_i hf h14 eh14
      refine J_iinc Z.1 (v := 1) (lv2 := [(1, .int (l1 + 1)), (0, va_rf (some this))]) 1 dX8_clear_34 rfl (by decide) (zL Z (by decide)) rfl ?_
      obtain ⟨x15, ex15⟩ : ∃ z, z = (l1 + 1) := ⟨_, rfl⟩
      replace hf := lt_i hf x15 ex15
      rw [← ex15]
      refine J_goto Z.1 2 dX8_clear_37 (by decide) ?_
      refine J_lv [1, 0] rfl ?_
      exact hk2 _ _ hf
def pX8_clear_l2 (g : MT) (this : Nat) : Nat → Int32 → CT → Option CT
  | 0, _, _ => none
  | n + 1, l1, h => pX8_clear_b2 g this (pX8_clear_l2 g this n) l1 h
theorem pX8_clear_l2_ok {X : Cx} {G : Gx} {dk : Nat} {g : MT} {h0 : CT} {this : Nat} (Z : Zx X G cX8_clear RX8 2 dk none none g h0) (hK : 0 ≤ dk) (t0 : gT g this = 7) : ∀ (n : Nat) (l1 : Int32) (h : CT), pX8_clear_l2 g this n l1 h = some h0 → J X g h 2 [(0, va_rf (some this)), (1, .int l1)] [] := by
  intro n
  induction n with
  | zero => intro l1 h hf; cases hf
  | succ n ih => intro l1 h hf; exact pX8_clear_b2_ok Z hK t0 ih l1 h hf
def pX8_clear (g : MT) (h : CT) (this : Nat) : Option CT := tg g this 7 (pX8_clear_l2 g this  FUEL 0 h)
set_option maxRecDepth 10000 in
set_option maxHeartbeats 4000000 in
theorem pX8_clear_ok (G : Gx) (dk : Nat) (hK : 0 ≤ dk) {g : MT} {h h0 : CT} {this : Nat} (hf : pX8_clear g h this = some h0) : Ctr G dk yX8_clear cX8_clear 2 none [va_rf (some this)] g h none g h0 := by
  refine Ctr.ofZ (lv := [(0, va_rf (some this))]) (by decide +kernel) (by simp [cat_i, cat_l, cat_d, cat_rf]) rfl fun X Z => ?_
  unfold pX8_clear at hf
  replace hf := tg_i hf
  obtain ⟨t0, hf⟩ := hf
  refine J_iconst Z.1 (v := 0) (by decide) dX8_clear_0 ?_
  refine J_istore_n Z.1 (lv2 := [(1, .int 0), (0, va_rf (some this))]) dX8_clear_1 rfl (zL Z (by decide)) rfl ?_
  refine J_lv [1, 0] rfl ?_
  exact pX8_clear_l2_ok Z hK t0  FUEL _ _ hf
