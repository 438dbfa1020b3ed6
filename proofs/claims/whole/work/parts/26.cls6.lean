/-! written by wip/whole/gen.py out of the printed bytecode -/
theorem dX9_lacksRow_0 : decode cX9_lacksRow 0 = .ok (.aload_n 1, 1) := by decide +kernel
theorem dX9_lacksRow_1 : decode cX9_lacksRow 1 = .ok (.getfield 84, 3) := by decide +kernel
theorem dX9_lacksRow_4 : decode cX9_lacksRow 4 = .ok (.iconst 1, 1) := by decide +kernel
theorem dX9_lacksRow_5 : decode cX9_lacksRow 5 = .ok (.invokevirtual 238, 3) := by decide +kernel
theorem dX9_lacksRow_8 : decode cX9_lacksRow 8 = .ok (.ifCond .eq 17, 3) := by decide +kernel
theorem dX9_lacksRow_11 : decode cX9_lacksRow 11 = .ok (.aload_n 0, 1) := by decide +kernel
theorem dX9_lacksRow_12 : decode cX9_lacksRow 12 = .ok (.getfield 34, 3) := by decide +kernel
theorem dX9_lacksRow_15 : decode cX9_lacksRow 15 = .ok (.aload_n 1, 1) := by decide +kernel
theorem dX9_lacksRow_16 : decode cX9_lacksRow 16 = .ok (.getfield 189, 3) := by decide +kernel
theorem dX9_lacksRow_19 : decode cX9_lacksRow 19 = .ok (.invokevirtual 192, 3) := by decide +kernel
theorem dX9_lacksRow_22 : decode cX9_lacksRow 22 = .ok (.ifCond .ne 54, 3) := by decide +kernel
theorem dX9_lacksRow_25 : decode cX9_lacksRow 25 = .ok (.aload_n 1, 1) := by decide +kernel
theorem dX9_lacksRow_26 : decode cX9_lacksRow 26 = .ok (.getfield 84, 3) := by decide +kernel
theorem dX9_lacksRow_29 : decode cX9_lacksRow 29 = .ok (.iconst 4, 1) := by decide +kernel
theorem dX9_lacksRow_30 : decode cX9_lacksRow 30 = .ok (.invokevirtual 238, 3) := by decide +kernel
theorem dX9_lacksRow_33 : decode cX9_lacksRow 33 = .ok (.ifCond .eq 17, 3) := by decide +kernel
theorem dX9_lacksRow_36 : decode cX9_lacksRow 36 = .ok (.aload_n 0, 1) := by decide +kernel
theorem dX9_lacksRow_37 : decode cX9_lacksRow 37 = .ok (.getfield 34, 3) := by decide +kernel
theorem dX9_lacksRow_40 : decode cX9_lacksRow 40 = .ok (.aload_n 1, 1) := by decide +kernel
theorem dX9_lacksRow_41 : decode cX9_lacksRow 41 = .ok (.getfield 267, 3) := by decide +kernel
theorem dX9_lacksRow_44 : decode cX9_lacksRow 44 = .ok (.invokevirtual 192, 3) := by decide +kernel
theorem dX9_lacksRow_47 : decode cX9_lacksRow 47 = .ok (.ifCond .ne 29, 3) := by decide +kernel
theorem dX9_lacksRow_50 : decode cX9_lacksRow 50 = .ok (.aload_n 1, 1) := by decide +kernel
theorem dX9_lacksRow_51 : decode cX9_lacksRow 51 = .ok (.getfield 84, 3) := by decide +kernel
theorem dX9_lacksRow_54 : decode cX9_lacksRow 54 = .ok (.bipush 8, 2) := by decide +kernel
theorem dX9_lacksRow_56 : decode cX9_lacksRow 56 = .ok (.invokevirtual 238, 3) := by decide +kernel
theorem dX9_lacksRow_59 : decode cX9_lacksRow 59 = .ok (.ifCond .eq 21, 3) := by decide +kernel
theorem dX9_lacksRow_62 : decode cX9_lacksRow 62 = .ok (.aload_n 0, 1) := by decide +kernel
theorem dX9_lacksRow_63 : decode cX9_lacksRow 63 = .ok (.getfield 34, 3) := by decide +kernel
theorem dX9_lacksRow_66 : decode cX9_lacksRow 66 = .ok (.aload_n 1, 1) := by decide +kernel
theorem dX9_lacksRow_67 : decode cX9_lacksRow 67 = .ok (.getfield 270, 3) := by decide +kernel
theorem dX9_lacksRow_70 : decode cX9_lacksRow 70 = .ok (.invokevirtual 192, 3) := by decide +kernel
theorem dX9_lacksRow_73 : decode cX9_lacksRow 73 = .ok (.ifCond .eq 7, 3) := by decide +kernel
theorem dX9_lacksRow_76 : decode cX9_lacksRow 76 = .ok (.iconst 1, 1) := by decide +kernel
theorem dX9_lacksRow_77 : decode cX9_lacksRow 77 = .ok (.goto 4, 3) := by decide +kernel
theorem dX9_lacksRow_80 : decode cX9_lacksRow 80 = .ok (.iconst 0, 1) := by decide +kernel
theorem dX9_lacksRow_81 : decode cX9_lacksRow 81 = .ok (.ireturn, 1) := by decide +kernel
def pX9_lacksRow_b76 (E : EC) (g : MT) (h : CT) (this : Nat) (p1 : Nat)  : Option Int32 := some 1
set_option maxRecDepth 10000 in
set_option maxHeartbeats 4000000 in
theorem pX9_lacksRow_b76_ok {X : Cx} {G : Gx} {dk : Nat} {g : MT} {r0 : Int32} {h : CT} {this : Nat} {p1 : Nat} (Z : Zx X G cX9_lacksRow RX9 2 dk (some .boolean) (some (.int r0)) g h) (hK : 1 ≤ dk) {E : EC} (hE : G.2.2.2 = E) (t0 : gT g this = 8)  (hf : pX9_lacksRow_b76 E g h this p1 = some r0) : J X g h 76 [] [] := by
  unfold pX9_lacksRow_b76 at hf
  refine J_iconst Z.1 (v := 1) (by decide) dX9_lacksRow_76 ?_
  refine J_goto Z.1 81 dX9_lacksRow_77 (by decide) ?_
  cases hf
  exact J_zret Z.1 Z.2.2.2.2.2 (z_n (Or.inr rfl)) dX9_lacksRow_81
def pX9_lacksRow_b50 (E : EC) (g : MT) (h : CT) (this : Nat) (p1 : Nat)  : Option Int32 := tg g p1 2 (lt (hR h p1 0) fun r2 => (nn r2 fun a2 => (tg E.2.2 a2 60 (bd (pX5_does E g h a2 8) fun x4 => (if x4 = 0 then some 0 else lt (hR h this 4) fun r7 => (nn r7 fun a7 => (tg g a7 3 (bd (pX3_isMissing g h a7 (hI h p1 3)) fun x9 => (if x9 = 0 then some 0 else pX9_lacksRow_b76 E g h this p1  )))))))))
set_option maxRecDepth 10000 in
set_option maxHeartbeats 4000000 in
theorem pX9_lacksRow_b50_ok {X : Cx} {G : Gx} {dk : Nat} {g : MT} {r0 : Int32} {h : CT} {this : Nat} {p1 : Nat} (Z : Zx X G cX9_lacksRow RX9 2 dk (some .boolean) (some (.int r0)) g h) (hK : 1 ≤ dk) {E : EC} (hE : G.2.2.2 = E) (t0 : gT g this = 8)  (hf : pX9_lacksRow_b50 E g h this p1 = some r0) : J X g h 50 [(0, va_rf (some this)), (1, va_rf (some p1))] [] := by
  unfold pX9_lacksRow_b50 at hf
  refine J_aload_n Z.1 1 dX9_lacksRow_50 rfl rfl ?_
  replace hf := tg_i hf
  obtain ⟨t1, hf⟩ := hf
  refine J_get (v := va_rf (hR h p1 0)) Z.1 dX9_lacksRow_51 fl_X9_84 t1 rfl ?_
  refine J_tr (fun r2 er2 => ?_)
  replace hf := lt_i hf r2 er2
  refine J_bipush Z.1 (v := 8) (by decide) dX9_lacksRow_54 ?_
  replace hf := nn_i hf
  obtain ⟨a2, rfl, hf⟩ := hf
  replace hf := tg_i hf
  obtain ⟨t3, hf⟩ := hf
  rw [← zE Z hE] at t3
  replace hf := bd_i hf
  obtain ⟨x4, q5, hf⟩ := hf
  refine J_callK (as := [.int 8]) (rest := []) (sy := [.int x4]) Z.1 dX9_lacksRow_56 cw_X9_238 (pX5_does_ok G (dk - 1) (by omega) hE q5) (kO Z.1 t3) (zG Z) rfl (by decide) (zF Z (by omega)) (zO Z (by omega) (by decide)) (zM _) Z.2.1 Z.2.1 rfl rfl ?_
  refine J_if_eq Z.1 80 dX9_lacksRow_59 (by decide) (fun c6 => ?_) (fun c6 => ?_)
  · rw [if_pos c6] at hf
    refine J_iconst Z.1 (v := 0) (by decide) dX9_lacksRow_80 ?_
    cases hf
    exact J_zret Z.1 Z.2.2.2.2.2 (z_n (Or.inl rfl)) dX9_lacksRow_81
  · rw [if_neg c6] at hf
    refine J_aload_n Z.1 0 dX9_lacksRow_62 rfl rfl ?_
    refine J_get (v := va_rf (hR h this 4)) Z.1 dX9_lacksRow_63 fl_X9_34 t0 rfl ?_
    refine J_tr (fun r7 er7 => ?_)
    replace hf := lt_i hf r7 er7
    refine J_aload_n Z.1 1 dX9_lacksRow_66 rfl rfl ?_
    refine J_get (v := .int (hI h p1 3)) Z.1 dX9_lacksRow_67 fl_X9_270 t1 rfl ?_
    replace hf := nn_i hf
    obtain ⟨a7, rfl, hf⟩ := hf
    replace hf := tg_i hf
    obtain ⟨t8, hf⟩ := hf
    replace hf := bd_i hf
    obtain ⟨x9, q10, hf⟩ := hf
    refine J_callV (ci := 2) (as := [.int (hI h p1 3)]) (rest := []) (sy := [.int x9]) Z.1 dX9_lacksRow_70 cw_X9_192 (pX3_isMissing_ok G (dk - 1) (by omega) q10) rfl rfl t8 (zG Z) rfl (by decide) (zF Z (by omega)) (zO Z (by omega) (by decide)) (zM _) Z.2.1 Z.2.1 rfl rfl ?_
    refine J_if_eq Z.1 80 dX9_lacksRow_73 (by decide) (fun c11 => ?_) (fun c11 => ?_)
    · rw [if_pos c11] at hf
      refine J_iconst Z.1 (v := 0) (by decide) dX9_lacksRow_80 ?_
      cases hf
      exact J_zret Z.1 Z.2.2.2.2.2 (z_n (Or.inl rfl)) dX9_lacksRow_81
    · rw [if_neg c11] at hf
      refine J_lv [] rfl ?_
      exact pX9_lacksRow_b76_ok Z hK hE t0   hf
def pX9_lacksRow_b25 (E : EC) (g : MT) (h : CT) (this : Nat) (p1 : Nat)  : Option Int32 := tg g p1 2 (lt (hR h p1 0) fun r2 => (nn r2 fun a2 => (tg E.2.2 a2 60 (bd (pX5_does E g h a2 4) fun x4 => (if x4 = 0 then pX9_lacksRow_b50 E g h this p1   else lt (hR h this 4) fun r7 => (nn r7 fun a7 => (tg g a7 3 (bd (pX3_isMissing g h a7 (hI h p1 2)) fun x9 => (if x9 = 0 then pX9_lacksRow_b50 E g h this p1   else pX9_lacksRow_b76 E g h this p1  )))))))))
set_option maxRecDepth 10000 in
set_option maxHeartbeats 4000000 in
theorem pX9_lacksRow_b25_ok {X : Cx} {G : Gx} {dk : Nat} {g : MT} {r0 : Int32} {h : CT} {this : Nat} {p1 : Nat} (Z : Zx X G cX9_lacksRow RX9 2 dk (some .boolean) (some (.int r0)) g h) (hK : 1 ≤ dk) {E : EC} (hE : G.2.2.2 = E) (t0 : gT g this = 8)  (hf : pX9_lacksRow_b25 E g h this p1 = some r0) : J X g h 25 [(0, va_rf (some this)), (1, va_rf (some p1))] [] := by
  unfold pX9_lacksRow_b25 at hf
  refine J_aload_n Z.1 1 dX9_lacksRow_25 rfl rfl ?_
  replace hf := tg_i hf
  obtain ⟨t1, hf⟩ := hf
  refine J_get (v := va_rf (hR h p1 0)) Z.1 dX9_lacksRow_26 fl_X9_84 t1 rfl ?_
  refine J_tr (fun r2 er2 => ?_)
  replace hf := lt_i hf r2 er2
  refine J_iconst Z.1 (v := 4) (by decide) dX9_lacksRow_29 ?_
  replace hf := nn_i hf
  obtain ⟨a2, rfl, hf⟩ := hf
  replace hf := tg_i hf
  obtain ⟨t3, hf⟩ := hf
  rw [← zE Z hE] at t3
  replace hf := bd_i hf
  obtain ⟨x4, q5, hf⟩ := hf
  refine J_callK (as := [.int 4]) (rest := []) (sy := [.int x4]) Z.1 dX9_lacksRow_30 cw_X9_238 (pX5_does_ok G (dk - 1) (by omega) hE q5) (kO Z.1 t3) (zG Z) rfl (by decide) (zF Z (by omega)) (zO Z (by omega) (by decide)) (zM _) Z.2.1 Z.2.1 rfl rfl ?_
  refine J_if_eq Z.1 50 dX9_lacksRow_33 (by decide) (fun c6 => ?_) (fun c6 => ?_)
  · rw [if_pos c6] at hf
    exact pX9_lacksRow_b50_ok Z hK hE t0   hf
  · rw [if_neg c6] at hf
    refine J_aload_n Z.1 0 dX9_lacksRow_36 rfl rfl ?_
    refine J_get (v := va_rf (hR h this 4)) Z.1 dX9_lacksRow_37 fl_X9_34 t0 rfl ?_
    refine J_tr (fun r7 er7 => ?_)
    replace hf := lt_i hf r7 er7
    refine J_aload_n Z.1 1 dX9_lacksRow_40 rfl rfl ?_
    refine J_get (v := .int (hI h p1 2)) Z.1 dX9_lacksRow_41 fl_X9_267 t1 rfl ?_
    replace hf := nn_i hf
    obtain ⟨a7, rfl, hf⟩ := hf
    replace hf := tg_i hf
    obtain ⟨t8, hf⟩ := hf
    replace hf := bd_i hf
    obtain ⟨x9, q10, hf⟩ := hf
    refine J_callV (ci := 2) (as := [.int (hI h p1 2)]) (rest := []) (sy := [.int x9]) Z.1 dX9_lacksRow_44 cw_X9_192 (pX3_isMissing_ok G (dk - 1) (by omega) q10) rfl rfl t8 (zG Z) rfl (by decide) (zF Z (by omega)) (zO Z (by omega) (by decide)) (zM _) Z.2.1 Z.2.1 rfl rfl ?_
    refine J_if_ne Z.1 76 dX9_lacksRow_47 (by decide) (fun c11 => ?_) (fun c11 => ?_)
    · rw [if_neg c11] at hf
      refine J_lv [] rfl ?_
      exact pX9_lacksRow_b76_ok Z hK hE t0   hf
    · rw [if_pos c11] at hf
      exact pX9_lacksRow_b50_ok Z hK hE t0   hf
def pX9_lacksRow (E : EC) (g : MT) (h : CT) (this : Nat) (p1 : Nat) : Option Int32 := tg g this 8 (tg g p1 2 (lt (hR h p1 0) fun r2 => (nn r2 fun a2 => (tg E.2.2 a2 60 (bd (pX5_does E g h a2 1) fun x4 => (if x4 = 0 then pX9_lacksRow_b25 E g h this p1   else lt (hR h this 4) fun r7 => (nn r7 fun a7 => (tg g a7 3 (bd (pX3_isMissing g h a7 (hI h p1 1)) fun x9 => (if x9 = 0 then pX9_lacksRow_b25 E g h this p1   else pX9_lacksRow_b76 E g h this p1  ))))))))))
set_option maxRecDepth 10000 in
set_option maxHeartbeats 4000000 in
theorem pX9_lacksRow_ok (G : Gx) (dk : Nat) (hK : 1 ≤ dk) {g : MT} {E : EC} (hE : G.2.2.2 = E) {h : CT} {this : Nat} {p1 : Nat} {r0 : Int32} (hf : pX9_lacksRow E g h this p1 = some r0) : Ctr G dk yX9_lacksRow cX9_lacksRow 2 (some .boolean) [va_rf (some this), va_rf (some p1)] g h (some (.int r0)) g h := by
  refine Ctr.ofZ (lv := [(0, va_rf (some this)), (1, va_rf (some p1))]) (by decide +kernel) (by simp [cat_i, cat_l, cat_d, cat_rf]) rfl fun X Z => ?_
  unfold pX9_lacksRow at hf
  replace hf := tg_i hf
  obtain ⟨t0, hf⟩ := hf
  refine J_aload_n Z.1 1 dX9_lacksRow_0 rfl rfl ?_
  replace hf := tg_i hf
  obtain ⟨t1, hf⟩ := hf
  refine J_get (v := va_rf (hR h p1 0)) Z.1 dX9_lacksRow_1 fl_X9_84 t1 rfl ?_
  refine J_tr (fun r2 er2 => ?_)
  replace hf := lt_i hf r2 er2
  refine J_iconst Z.1 (v := 1) (by decide) dX9_lacksRow_4 ?_
  replace hf := nn_i hf
  obtain ⟨a2, rfl, hf⟩ := hf
  replace hf := tg_i hf
  obtain ⟨t3, hf⟩ := hf
  rw [← zE Z hE] at t3
  replace hf := bd_i hf
  obtain ⟨x4, q5, hf⟩ := hf
  refine J_callK (as := [.int 1]) (rest := []) (sy := [.int x4]) Z.1 dX9_lacksRow_5 cw_X9_238 (pX5_does_ok G (dk - 1) (by omega) hE q5) (kO Z.1 t3) (zG Z) rfl (by decide) (zF Z (by omega)) (zO Z (by omega) (by decide)) (zM _) Z.2.1 Z.2.1 rfl rfl ?_
  refine J_if_eq Z.1 25 dX9_lacksRow_8 (by decide) (fun c6 => ?_) (fun c6 => ?_)
  · rw [if_pos c6] at hf
    exact pX9_lacksRow_b25_ok Z hK hE t0   hf
  · rw [if_neg c6] at hf
    refine J_aload_n Z.1 0 dX9_lacksRow_11 rfl rfl ?_
    refine J_get (v := va_rf (hR h this 4)) Z.1 dX9_lacksRow_12 fl_X9_34 t0 rfl ?_
    refine J_tr (fun r7 er7 => ?_)
    replace hf := lt_i hf r7 er7
    refine J_aload_n Z.1 1 dX9_lacksRow_15 rfl rfl ?_
    refine J_get (v := .int (hI h p1 1)) Z.1 dX9_lacksRow_16 fl_X9_189 t1 rfl ?_
    replace hf := nn_i hf
    obtain ⟨a7, rfl, hf⟩ := hf
    replace hf := tg_i hf
    obtain ⟨t8, hf⟩ := hf
    replace hf := bd_i hf
    obtain ⟨x9, q10, hf⟩ := hf
    refine J_callV (ci := 2) (as := [.int (hI h p1 1)]) (rest := []) (sy := [.int x9]) Z.1 dX9_lacksRow_19 cw_X9_192 (pX3_isMissing_ok G (dk - 1) (by omega) q10) rfl rfl t8 (zG Z) rfl (by decide) (zF Z (by omega)) (zO Z (by omega) (by decide)) (zM _) Z.2.1 Z.2.1 rfl rfl ?_
    refine J_if_ne Z.1 76 dX9_lacksRow_22 (by decide) (fun c11 => ?_) (fun c11 => ?_)
    · rw [if_neg c11] at hf
      refine J_lv [] rfl ?_
      exact pX9_lacksRow_b76_ok Z hK hE t0   hf
    · rw [if_pos c11] at hf
      exact pX9_lacksRow_b25_ok Z hK hE t0   hf
theorem dX9_offsetFits_0 : decode cX9_offsetFits 0 = .ok (.aload_n 0, 1) := by decide +kernel
theorem dX9_offsetFits_1 : decode cX9_offsetFits 1 = .ok (.getfield 34, 3) := by decide +kernel
theorem dX9_offsetFits_4 : decode cX9_offsetFits 4 = .ok (.aload_n 1, 1) := by decide +kernel
theorem dX9_offsetFits_5 : decode cX9_offsetFits 5 = .ok (.getfield 270, 3) := by decide +kernel
theorem dX9_offsetFits_8 : decode cX9_offsetFits 8 = .ok (.iload_n 2, 1) := by decide +kernel
theorem dX9_offsetFits_9 : decode cX9_offsetFits 9 = .ok (.aload_n 0, 1) := by decide +kernel
theorem dX9_offsetFits_10 : decode cX9_offsetFits 10 = .ok (.getfield 31, 3) := by decide +kernel
theorem dX9_offsetFits_13 : decode cX9_offsetFits 13 = .ok (.invokevirtual 273, 3) := by decide +kernel
theorem dX9_offsetFits_16 : decode cX9_offsetFits 16 = .ok (.aload_n 0, 1) := by decide +kernel
theorem dX9_offsetFits_17 : decode cX9_offsetFits 17 = .ok (.getfield 31, 3) := by decide +kernel
theorem dX9_offsetFits_20 : decode cX9_offsetFits 20 = .ok (.invokevirtual 276, 3) := by decide +kernel
theorem dX9_offsetFits_23 : decode cX9_offsetFits 23 = .ok (.ireturn, 1) := by decide +kernel
def pX9_offsetFits (g : MT) (h : CT) (this : Nat) (p1 : Nat) (p2 : Int32) : Option ((Int32) × CT) := tg g this 8 (lt (hR h this 4) fun r1 => (tg g p1 2 (lt (hR h this 3) fun r3 => (nn r1 fun a1 => (tg g a1 3 (nn r3 fun a3 => (bd (pX3_fetch g h a1 (hI h p1 3) p2 a3) fun h5 => (lt (hR h5 this 3) fun r7 => (nn r7 fun a7 => (tg g a7 4 (bd (pX4_isOffset g h5 a7) fun x9 => (bz x9 (some (x9, h5))))))))))))))
set_option maxRecDepth 10000 in
set_option maxHeartbeats 4000000 in
theorem pX9_offsetFits_ok (G : Gx) (dk : Nat) (hK : 2 ≤ dk) {g : MT} {h h0 : CT} {this : Nat} {p1 : Nat} {p2 : Int32} {r0 : Int32} (hf : pX9_offsetFits g h this p1 p2 = some (r0, h0)) : Ctr G dk yX9_offsetFits cX9_offsetFits 3 (some .boolean) [va_rf (some this), va_rf (some p1), .int p2] g h (some (.int r0)) g h0 := by
  refine Ctr.ofZ (lv := [(0, va_rf (some this)), (1, va_rf (some p1)), (2, .int p2)]) (by decide +kernel) (by simp [cat_i, cat_l, cat_d, cat_rf]) rfl fun X Z => ?_
  unfold pX9_offsetFits at hf
  replace hf := tg_i hf
  obtain ⟨t0, hf⟩ := hf
  refine J_aload_n Z.1 0 dX9_offsetFits_0 rfl rfl ?_
  refine J_get (v := va_rf (hR h this 4)) Z.1 dX9_offsetFits_1 fl_X9_34 t0 rfl ?_
  refine J_tr (fun r1 er1 => ?_)
  replace hf := lt_i hf r1 er1
  refine J_aload_n Z.1 1 dX9_offsetFits_4 rfl rfl ?_
  replace hf := tg_i hf
  obtain ⟨t2, hf⟩ := hf
  refine J_get (v := .int (hI h p1 3)) Z.1 dX9_offsetFits_5 fl_X9_270 t2 rfl ?_
  refine J_iload_n Z.1 2 dX9_offsetFits_8 rfl rfl ?_
  refine J_aload_n Z.1 0 dX9_offsetFits_9 rfl rfl ?_
  refine J_get (v := va_rf (hR h this 3)) Z.1 dX9_offsetFits_10 fl_X9_31 t0 rfl ?_
  refine J_tr (fun r3 er3 => ?_)
  replace hf := lt_i hf r3 er3
  replace hf := nn_i hf
  obtain ⟨a1, rfl, hf⟩ := hf
  replace hf := tg_i hf
  obtain ⟨t4, hf⟩ := hf
  replace hf := nn_i hf
  obtain ⟨a3, rfl, hf⟩ := hf
  replace hf := bd_i hf
  obtain ⟨h5, q6, hf⟩ := hf
  refine J_callV (ci := 2) (as := [.int (hI h p1 3), .int p2, va_rf (some a3)]) (rest := []) (sy := []) Z.1 dX9_offsetFits_13 cw_X9_273 (pX3_fetch_ok G (dk - 1) (by omega) q6) rfl rfl t4 (zG Z) rfl (by decide) (zF Z (by omega)) (zO Z (by omega) (by decide)) (zM _) Z.2.1 Z.2.1 rfl rfl ?_
  refine J_aload_n Z.1 0 dX9_offsetFits_16 rfl rfl ?_
  refine J_get (v := va_rf (hR h5 this 3)) Z.1 dX9_offsetFits_17 fl_X9_31 t0 rfl ?_
  refine J_tr (fun r7 er7 => ?_)
  replace hf := lt_i hf r7 er7
  replace hf := nn_i hf
  obtain ⟨a7, rfl, hf⟩ := hf
  replace hf := tg_i hf
  obtain ⟨t8, hf⟩ := hf
  replace hf := bd_i hf
  obtain ⟨x9, q10, hf⟩ := hf
  refine J_callV (ci := 3) (as := []) (rest := []) (sy := [.int x9]) Z.1 dX9_offsetFits_20 cw_X9_276 (pX4_isOffset_ok G (dk - 1) (by omega) q10) rfl rfl t8 (zG Z) rfl (by decide) (zF Z (by omega)) (zO Z (by omega) (by decide)) (zM _) Z.2.1 Z.2.1 rfl rfl ?_
  replace hf := bz_i hf
  obtain ⟨z11, hf⟩ := hf
  cases hf
  exact J_zret Z.1 Z.2.2.2.2.2 (z_n z11) dX9_offsetFits_23
theorem dX9_placeOf_0 : decode cX9_placeOf 0 = .ok (.aload_n 1, 1) := by decide +kernel
theorem dX9_placeOf_1 : decode cX9_placeOf 1 = .ok (.getfield 84, 3) := by decide +kernel
theorem dX9_placeOf_4 : decode cX9_placeOf 4 = .ok (.bipush 8, 2) := by decide +kernel
theorem dX9_placeOf_6 : decode cX9_placeOf 6 = .ok (.invokevirtual 238, 3) := by decide +kernel
theorem dX9_placeOf_9 : decode cX9_placeOf 9 = .ok (.ifCond .eq 33, 3) := by decide +kernel
theorem dX9_placeOf_12 : decode cX9_placeOf 12 = .ok (.aload_n 0, 1) := by decide +kernel
theorem dX9_placeOf_13 : decode cX9_placeOf 13 = .ok (.getfield 34, 3) := by decide +kernel
theorem dX9_placeOf_16 : decode cX9_placeOf 16 = .ok (.aload_n 1, 1) := by decide +kernel
theorem dX9_placeOf_17 : decode cX9_placeOf 17 = .ok (.getfield 270, 3) := by decide +kernel
theorem dX9_placeOf_20 : decode cX9_placeOf 20 = .ok (.iload_n 2, 1) := by decide +kernel
theorem dX9_placeOf_21 : decode cX9_placeOf 21 = .ok (.aload_n 0, 1) := by decide +kernel
theorem dX9_placeOf_22 : decode cX9_placeOf 22 = .ok (.getfield 31, 3) := by decide +kernel
theorem dX9_placeOf_25 : decode cX9_placeOf 25 = .ok (.invokevirtual 273, 3) := by decide +kernel
theorem dX9_placeOf_28 : decode cX9_placeOf 28 = .ok (.aload_n 1, 1) := by decide +kernel
theorem dX9_placeOf_29 : decode cX9_placeOf 29 = .ok (.getfield 280, 3) := by decide +kernel
theorem dX9_placeOf_32 : decode cX9_placeOf 32 = .ok (.aload_n 0, 1) := by decide +kernel
theorem dX9_placeOf_33 : decode cX9_placeOf 33 = .ok (.getfield 31, 3) := by decide +kernel
theorem dX9_placeOf_36 : decode cX9_placeOf 36 = .ok (.invokevirtual 282, 3) := by decide +kernel
theorem dX9_placeOf_39 : decode cX9_placeOf 39 = .ok (.l2i, 1) := by decide +kernel
theorem dX9_placeOf_40 : decode cX9_placeOf 40 = .ok (.iadd, 1) := by decide +kernel
theorem dX9_placeOf_41 : decode cX9_placeOf 41 = .ok (.ireturn, 1) := by decide +kernel
theorem dX9_placeOf_42 : decode cX9_placeOf 42 = .ok (.aload_n 1, 1) := by decide +kernel
theorem dX9_placeOf_43 : decode cX9_placeOf 43 = .ok (.getfield 280, 3) := by decide +kernel
theorem dX9_placeOf_46 : decode cX9_placeOf 46 = .ok (.aload_n 1, 1) := by decide +kernel
theorem dX9_placeOf_47 : decode cX9_placeOf 47 = .ok (.getfield 286, 3) := by decide +kernel
theorem dX9_placeOf_50 : decode cX9_placeOf 50 = .ok (.aload_n 0, 1) := by decide +kernel
theorem dX9_placeOf_51 : decode cX9_placeOf 51 = .ok (.getfield 51, 3) := by decide +kernel
theorem dX9_placeOf_54 : decode cX9_placeOf 54 = .ok (.iload_n 2, 1) := by decide +kernel
theorem dX9_placeOf_55 : decode cX9_placeOf 55 = .ok (.iadd, 1) := by decide +kernel
theorem dX9_placeOf_56 : decode cX9_placeOf 56 = .ok (.imul, 1) := by decide +kernel
theorem dX9_placeOf_57 : decode cX9_placeOf 57 = .ok (.iadd, 1) := by decide +kernel
theorem dX9_placeOf_58 : decode cX9_placeOf 58 = .ok (.ireturn, 1) := by decide +kernel
def pX9_placeOf (E : EC) (g : MT) (h : CT) (this : Nat) (p1 : Nat) (p2 : Int32) : Option ((Int32) × CT) := tg g this 8 (tg g p1 2 (lt (hR h p1 0) fun r2 => (nn r2 fun a2 => (tg E.2.2 a2 60 (bd (pX5_does E g h a2 8) fun x4 => (if x4 = 0 then some (((hI h p1 5) + ((hI h p1 6) * ((hI h this 9) + p2))), h) else lt (hR h this 4) fun r7 => (lt (hR h this 3) fun r8 => (nn r7 fun a7 => (tg g a7 3 (nn r8 fun a8 => (bd (pX3_fetch g h a7 (hI h p1 3) p2 a8) fun h10 => (lt (hR h10 this 3) fun r12 => (nn r12 fun a12 => (tg g a12 4 (bd (pX4_asLong g h10 a12) fun x14 => (some (((hI h10 p1 5) + (Int64.toInt32 x14)), h10)))))))))))))))))
set_option maxRecDepth 10000 in
set_option maxHeartbeats 4000000 in
theorem pX9_placeOf_ok (G : Gx) (dk : Nat) (hK : 2 ≤ dk) {g : MT} {E : EC} (hE : G.2.2.2 = E) {h h0 : CT} {this : Nat} {p1 : Nat} {p2 : Int32} {r0 : Int32} (hf : pX9_placeOf E g h this p1 p2 = some (r0, h0)) : Ctr G dk yX9_placeOf cX9_placeOf 3 (some .int) [va_rf (some this), va_rf (some p1), .int p2] g h (some (.int r0)) g h0 := by
  refine Ctr.ofZ (lv := [(0, va_rf (some this)), (1, va_rf (some p1)), (2, .int p2)]) (by decide +kernel) (by simp [cat_i, cat_l, cat_d, cat_rf]) rfl fun X Z => ?_
  unfold pX9_placeOf at hf
  replace hf := tg_i hf
  obtain ⟨t0, hf⟩ := hf
  refine J_aload_n Z.1 1 dX9_placeOf_0 rfl rfl ?_
  replace hf := tg_i hf
  obtain ⟨t1, hf⟩ := hf
  refine J_get (v := va_rf (hR h p1 0)) Z.1 dX9_placeOf_1 fl_X9_84 t1 rfl ?_
  refine J_tr (fun r2 er2 => ?_)
  replace hf := lt_i hf r2 er2
  refine J_bipush Z.1 (v := 8) (by decide) dX9_placeOf_4 ?_
  replace hf := nn_i hf
  obtain ⟨a2, rfl, hf⟩ := hf
  replace hf := tg_i hf
  obtain ⟨t3, hf⟩ := hf
  rw [← zE Z hE] at t3
  replace hf := bd_i hf
  obtain ⟨x4, q5, hf⟩ := hf
  refine J_callK (as := [.int 8]) (rest := []) (sy := [.int x4]) Z.1 dX9_placeOf_6 cw_X9_238 (pX5_does_ok G (dk - 1) (by omega) hE q5) (kO Z.1 t3) (zG Z) rfl (by decide) (zF Z (by omega)) (zO Z (by omega) (by decide)) (zM _) Z.2.1 Z.2.1 rfl rfl ?_
  refine J_if_eq Z.1 42 dX9_placeOf_9 (by decide) (fun c6 => ?_) (fun c6 => ?_)
  · rw [if_pos c6] at hf
    refine J_aload_n Z.1 1 dX9_placeOf_42 rfl rfl ?_
    refine J_get (v := .int (hI h p1 5)) Z.1 dX9_placeOf_43 fl_X9_280 t1 rfl ?_
    refine J_aload_n Z.1 1 dX9_placeOf_46 rfl rfl ?_
    refine J_get (v := .int (hI h p1 6)) Z.1 dX9_placeOf_47 fl_X9_286 t1 rfl ?_
    refine J_aload_n Z.1 0 dX9_placeOf_50 rfl rfl ?_
    refine J_get (v := .int (hI h this 9)) Z.1 dX9_placeOf_51 fl_X9_51 t0 rfl ?_
    refine J_iload_n Z.1 2 dX9_placeOf_54 rfl rfl ?_
    refine J_iadd Z.1 dX9_placeOf_55 ?_
    refine J_imul Z.1 dX9_placeOf_56 ?_
    refine J_iadd Z.1 dX9_placeOf_57 ?_
    cases hf
    exact J_iret Z.1 Z.2.2.2.2.2 dX9_placeOf_58
  · rw [if_neg c6] at hf
    refine J_aload_n Z.1 0 dX9_placeOf_12 rfl rfl ?_
    refine J_get (v := va_rf (hR h this 4)) Z.1 dX9_placeOf_13 fl_X9_34 t0 rfl ?_
    refine J_tr (fun r7 er7 => ?_)
    replace hf := lt_i hf r7 er7
    refine J_aload_n Z.1 1 dX9_placeOf_16 rfl rfl ?_
    refine J_get (v := .int (hI h p1 3)) Z.1 dX9_placeOf_17 fl_X9_270 t1 rfl ?_
    refine J_iload_n Z.1 2 dX9_placeOf_20 rfl rfl ?_
    refine J_aload_n Z.1 0 dX9_placeOf_21 rfl rfl ?_
    refine J_get (v := va_rf (hR h this 3)) Z.1 dX9_placeOf_22 fl_X9_31 t0 rfl ?_
    refine J_tr (fun r8 er8 => ?_)
    replace hf := lt_i hf r8 er8
    replace hf := nn_i hf
    obtain ⟨a7, rfl, hf⟩ := hf
    replace hf := tg_i hf
    obtain ⟨t9, hf⟩ := hf
    replace hf := nn_i hf
    obtain ⟨a8, rfl, hf⟩ := hf
    replace hf := bd_i hf
    obtain ⟨h10, q11, hf⟩ := hf
    refine J_callV (ci := 2) (as := [.int (hI h p1 3), .int p2, va_rf (some a8)]) (rest := []) (sy := []) Z.1 dX9_placeOf_25 cw_X9_273 (pX3_fetch_ok G (dk - 1) (by omega) q11) rfl rfl t9 (zG Z) rfl (by decide) (zF Z (by omega)) (zO Z (by omega) (by decide)) (zM _) Z.2.1 Z.2.1 rfl rfl ?_
    refine J_aload_n Z.1 1 dX9_placeOf_28 rfl rfl ?_
    refine J_get (v := .int (hI h10 p1 5)) Z.1 dX9_placeOf_29 fl_X9_280 t1 rfl ?_
    refine J_aload_n Z.1 0 dX9_placeOf_32 rfl rfl ?_
    refine J_get (v := va_rf (hR h10 this 3)) Z.1 dX9_placeOf_33 fl_X9_31 t0 rfl ?_
    refine J_tr (fun r12 er12 => ?_)
    replace hf := lt_i hf r12 er12
    replace hf := nn_i hf
    obtain ⟨a12, rfl, hf⟩ := hf
    replace hf := tg_i hf
    obtain ⟨t13, hf⟩ := hf
    replace hf := bd_i hf
    obtain ⟨x14, q15, hf⟩ := hf
    refine J_callV (ci := 3) (as := []) (rest := [.int (hI h10 p1 5)]) (sy := [.long x14, .int (hI h10 p1 5)]) Z.1 dX9_placeOf_36 cw_X9_282 (pX4_asLong_ok G (dk - 1) (by omega) q15) rfl rfl t13 (zG Z) rfl (by simp [cat_i, cat_l, cat_d, cat_rf]) (zF Z (by omega)) (zO Z (by omega) (by decide)) (zM _) Z.2.1 Z.2.1 rfl rfl ?_
    refine J_l2i Z.1 dX9_placeOf_39 ?_
    refine J_iadd Z.1 dX9_placeOf_40 ?_
    cases hf
    exact J_iret Z.1 Z.2.2.2.2.2 dX9_placeOf_41
theorem dX9_holds_0 : decode cX9_holds 0 = .ok (.aload_n 0, 1) := by decide +kernel
theorem dX9_holds_1 : decode cX9_holds 1 = .ok (.getfield 34, 3) := by decide +kernel
theorem dX9_holds_4 : decode cX9_holds 4 = .ok (.aload_n 1, 1) := by decide +kernel
theorem dX9_holds_5 : decode cX9_holds 5 = .ok (.getfield 189, 3) := by decide +kernel
theorem dX9_holds_8 : decode cX9_holds 8 = .ok (.iload_n 2, 1) := by decide +kernel
theorem dX9_holds_9 : decode cX9_holds 9 = .ok (.aload_n 0, 1) := by decide +kernel
theorem dX9_holds_10 : decode cX9_holds 10 = .ok (.getfield 27, 3) := by decide +kernel
theorem dX9_holds_13 : decode cX9_holds 13 = .ok (.invokevirtual 273, 3) := by decide +kernel
theorem dX9_holds_16 : decode cX9_holds 16 = .ok (.aload_n 1, 1) := by decide +kernel
theorem dX9_holds_17 : decode cX9_holds 17 = .ok (.getfield 84, 3) := by decide +kernel
theorem dX9_holds_20 : decode cX9_holds 20 = .ok (.getstatic 318, 3) := by decide +kernel
theorem dX9_holds_23 : decode cX9_holds 23 = .ok (.if_acmp .ne 11, 3) := by decide +kernel
theorem dX9_holds_26 : decode cX9_holds 26 = .ok (.aload_n 0, 1) := by decide +kernel
theorem dX9_holds_27 : decode cX9_holds 27 = .ok (.getfield 27, 3) := by decide +kernel
theorem dX9_holds_30 : decode cX9_holds 30 = .ok (.getfield 321, 3) := by decide +kernel
theorem dX9_holds_33 : decode cX9_holds 33 = .ok (.ireturn, 1) := by decide +kernel
theorem dX9_holds_34 : decode cX9_holds 34 = .ok (.aload_n 0, 1) := by decide +kernel
theorem dX9_holds_35 : decode cX9_holds 35 = .ok (.getfield 34, 3) := by decide +kernel
theorem dX9_holds_38 : decode cX9_holds 38 = .ok (.aload_n 1, 1) := by decide +kernel
theorem dX9_holds_39 : decode cX9_holds 39 = .ok (.getfield 267, 3) := by decide +kernel
theorem dX9_holds_42 : decode cX9_holds 42 = .ok (.iload_n 2, 1) := by decide +kernel
theorem dX9_holds_43 : decode cX9_holds 43 = .ok (.aload_n 0, 1) := by decide +kernel
theorem dX9_holds_44 : decode cX9_holds 44 = .ok (.getfield 31, 3) := by decide +kernel
theorem dX9_holds_47 : decode cX9_holds 47 = .ok (.invokevirtual 273, 3) := by decide +kernel
theorem dX9_holds_50 : decode cX9_holds 50 = .ok (.aload_n 1, 1) := by decide +kernel
theorem dX9_holds_51 : decode cX9_holds 51 = .ok (.getfield 84, 3) := by decide +kernel
theorem dX9_holds_54 : decode cX9_holds 54 = .ok (.getstatic 324, 3) := by decide +kernel
theorem dX9_holds_57 : decode cX9_holds 57 = .ok (.if_acmp .ne 17, 3) := by decide +kernel
theorem dX9_holds_60 : decode cX9_holds 60 = .ok (.aload_n 0, 1) := by decide +kernel
theorem dX9_holds_61 : decode cX9_holds 61 = .ok (.getfield 27, 3) := by decide +kernel
theorem dX9_holds_64 : decode cX9_holds 64 = .ok (.aload_n 0, 1) := by decide +kernel
theorem dX9_holds_65 : decode cX9_holds 65 = .ok (.getfield 31, 3) := by decide +kernel
theorem dX9_holds_68 : decode cX9_holds 68 = .ok (.invokevirtual 327, 3) := by decide +kernel
theorem dX9_holds_71 : decode cX9_holds 71 = .ok (.goto 14, 3) := by decide +kernel
theorem dX9_holds_74 : decode cX9_holds 74 = .ok (.aload_n 0, 1) := by decide +kernel
theorem dX9_holds_75 : decode cX9_holds 75 = .ok (.getfield 27, 3) := by decide +kernel
theorem dX9_holds_78 : decode cX9_holds 78 = .ok (.aload_n 0, 1) := by decide +kernel
theorem dX9_holds_79 : decode cX9_holds 79 = .ok (.getfield 31, 3) := by decide +kernel
theorem dX9_holds_82 : decode cX9_holds 82 = .ok (.invokevirtual 331, 3) := by decide +kernel
theorem dX9_holds_85 : decode cX9_holds 85 = .ok (.ireturn, 1) := by decide +kernel
def pX9_holds (E : EC) (g : MT) (h : CT) (this : Nat) (p1 : Nat) (p2 : Int32) : Option ((Int32) × CT) := tg g this 8 (lt (hR h this 4) fun r1 => (tg g p1 2 (lt (hR h this 2) fun r3 => (nn r1 fun a1 => (tg g a1 3 (nn r3 fun a3 => (bd (pX3_fetch g h a1 (hI h p1 1) p2 a3) fun h5 => (lt (hR h5 p1 0) fun r7 => (kR (E.1 24) fun a8 => (if r7 = (some a8) then lt (hR h5 this 2) fun r30 => (nn r30 fun a30 => (tg g a30 4 (bz (hI h5 a30 1) (some ((hI h5 a30 1), h5))))) else lt (hR h5 this 4) fun r10 => (lt (hR h5 this 3) fun r11 => (nn r10 fun a10 => (tg g a10 3 (nn r11 fun a11 => (bd (pX3_fetch g h5 a10 (hI h5 p1 2) p2 a11) fun h13 => (lt (hR h13 p1 0) fun r15 => (kR (E.1 22) fun a16 => (if r15 = (some a16) then lt (hR h13 this 2) fun r24 => (lt (hR h13 this 3) fun r25 => (nn r24 fun a24 => (tg g a24 4 (nn r25 fun a25 => (bd (pX4_isLess g h13 a24 a25) fun x27 => (bz x27 (some (x27, h13)))))))) else lt (hR h13 this 2) fun r18 => (lt (hR h13 this 3) fun r19 => (nn r18 fun a18 => (tg g a18 4 (nn r19 fun a19 => (bd (pX4_isSame g h13 a18 a19) fun x21 => (bz x21 (some (x21, h13))))))))))))))))))))))))))
set_option maxRecDepth 10000 in
set_option maxHeartbeats 4000000 in
theorem pX9_holds_ok (G : Gx) (dk : Nat) (hK : 2 ≤ dk) {g : MT} {E : EC} (hE : G.2.2.2 = E) {h h0 : CT} {this : Nat} {p1 : Nat} {p2 : Int32} {r0 : Int32} (hf : pX9_holds E g h this p1 p2 = some (r0, h0)) : Ctr G dk yX9_holds cX9_holds 3 (some .boolean) [va_rf (some this), va_rf (some p1), .int p2] g h (some (.int r0)) g h0 := by
  refine Ctr.ofZ (lv := [(0, va_rf (some this)), (1, va_rf (some p1)), (2, .int p2)]) (by decide +kernel) (by simp [cat_i, cat_l, cat_d, cat_rf]) rfl fun X Z => ?_
  unfold pX9_holds at hf
  replace hf := tg_i hf
  obtain ⟨t0, hf⟩ := hf
  refine J_aload_n Z.1 0 dX9_holds_0 rfl rfl ?_
  refine J_get (v := va_rf (hR h this 4)) Z.1 dX9_holds_1 fl_X9_34 t0 rfl ?_
  refine J_tr (fun r1 er1 => ?_)
  replace hf := lt_i hf r1 er1
  refine J_aload_n Z.1 1 dX9_holds_4 rfl rfl ?_
  replace hf := tg_i hf
  obtain ⟨t2, hf⟩ := hf
  refine J_get (v := .int (hI h p1 1)) Z.1 dX9_holds_5 fl_X9_189 t2 rfl ?_
  refine J_iload_n Z.1 2 dX9_holds_8 rfl rfl ?_
  refine J_aload_n Z.1 0 dX9_holds_9 rfl rfl ?_
  refine J_get (v := va_rf (hR h this 2)) Z.1 dX9_holds_10 fl_X9_27 t0 rfl ?_
  refine J_tr (fun r3 er3 => ?_)
  replace hf := lt_i hf r3 er3
  replace hf := nn_i hf
  obtain ⟨a1, rfl, hf⟩ := hf
  replace hf := tg_i hf
  obtain ⟨t4, hf⟩ := hf
  replace hf := nn_i hf
  obtain ⟨a3, rfl, hf⟩ := hf
  replace hf := bd_i hf
  obtain ⟨h5, q6, hf⟩ := hf
  refine J_callV (ci := 2) (as := [.int (hI h p1 1), .int p2, va_rf (some a3)]) (rest := []) (sy := []) Z.1 dX9_holds_13 cw_X9_273 (pX3_fetch_ok G (dk - 1) (by omega) q6) rfl rfl t4 (zG Z) rfl (by decide) (zF Z (by omega)) (zO Z (by omega) (by decide)) (zM _) Z.2.1 Z.2.1 rfl rfl ?_
  refine J_aload_n Z.1 1 dX9_holds_16 rfl rfl ?_
  refine J_get (v := va_rf (hR h5 p1 0)) Z.1 dX9_holds_17 fl_X9_84 t2 rfl ?_
  refine J_tr (fun r7 er7 => ?_)
  replace hf := lt_i hf r7 er7
  replace hf := kR_i hf
  obtain ⟨a8, ea8, hf⟩ := hf
  refine J_gets (i := 24) (v := va_rf (some a8)) Z.1 dX9_holds_20 rfl q_1180 (zEv Z hE ea8) rfl ?_
  refine J_acmp_ne Z.1 34 dX9_holds_23 (by decide) (fun c9 => ?_) (fun c9 => ?_)
  · rw [if_neg c9] at hf
    refine J_aload_n Z.1 0 dX9_holds_34 rfl rfl ?_
    refine J_get (v := va_rf (hR h5 this 4)) Z.1 dX9_holds_35 fl_X9_34 t0 rfl ?_
    refine J_tr (fun r10 er10 => ?_)
    replace hf := lt_i hf r10 er10
    refine J_aload_n Z.1 1 dX9_holds_38 rfl rfl ?_
    refine J_get (v := .int (hI h5 p1 2)) Z.1 dX9_holds_39 fl_X9_267 t2 rfl ?_
    refine J_iload_n Z.1 2 dX9_holds_42 rfl rfl ?_
    refine J_aload_n Z.1 0 dX9_holds_43 rfl rfl ?_
    refine J_get (v := va_rf (hR h5 this 3)) Z.1 dX9_holds_44 fl_X9_31 t0 rfl ?_
    refine J_tr (fun r11 er11 => ?_)
    replace hf := lt_i hf r11 er11
    replace hf := nn_i hf
    obtain ⟨a10, rfl, hf⟩ := hf
    replace hf := tg_i hf
    obtain ⟨t12, hf⟩ := hf
    replace hf := nn_i hf
    obtain ⟨a11, rfl, hf⟩ := hf
    replace hf := bd_i hf
    obtain ⟨h13, q14, hf⟩ := hf
    refine J_callV (ci := 2) (as := [.int (hI h5 p1 2), .int p2, va_rf (some a11)]) (rest := []) (sy := []) Z.1 dX9_holds_47 cw_X9_273 (pX3_fetch_ok G (dk - 1) (by omega) q14) rfl rfl t12 (zG Z) rfl (by decide) (zF Z (by omega)) (zO Z (by omega) (by decide)) (zM _) Z.2.1 Z.2.1 rfl rfl ?_
    refine J_aload_n Z.1 1 dX9_holds_50 rfl rfl ?_
    refine J_get (v := va_rf (hR h13 p1 0)) Z.1 dX9_holds_51 fl_X9_84 t2 rfl ?_
    refine J_tr (fun r15 er15 => ?_)
    replace hf := lt_i hf r15 er15
    replace hf := kR_i hf
    obtain ⟨a16, ea16, hf⟩ := hf
    refine J_gets (i := 22) (v := va_rf (some a16)) Z.1 dX9_holds_54 rfl q_1182 (zEv Z hE ea16) rfl ?_
    refine J_acmp_ne Z.1 74 dX9_holds_57 (by decide) (fun c17 => ?_) (fun c17 => ?_)
    · rw [if_neg c17] at hf
      refine J_aload_n Z.1 0 dX9_holds_74 rfl rfl ?_
      refine J_get (v := va_rf (hR h13 this 2)) Z.1 dX9_holds_75 fl_X9_27 t0 rfl ?_
      refine J_tr (fun r18 er18 => ?_)
      replace hf := lt_i hf r18 er18
      refine J_aload_n Z.1 0 dX9_holds_78 rfl rfl ?_
      refine J_get (v := va_rf (hR h13 this 3)) Z.1 dX9_holds_79 fl_X9_31 t0 rfl ?_
      refine J_tr (fun r19 er19 => ?_)
      replace hf := lt_i hf r19 er19
      replace hf := nn_i hf
      obtain ⟨a18, rfl, hf⟩ := hf
      replace hf := tg_i hf
      obtain ⟨t20, hf⟩ := hf
      replace hf := nn_i hf
      obtain ⟨a19, rfl, hf⟩ := hf
      replace hf := bd_i hf
      obtain ⟨x21, q22, hf⟩ := hf
      refine J_callV (ci := 3) (as := [va_rf (some a19)]) (rest := []) (sy := [.int x21]) Z.1 dX9_holds_82 cw_X9_331 (pX4_isSame_ok G (dk - 1) (by omega) q22) rfl rfl t20 (zG Z) rfl (by decide) (zF Z (by omega)) (zO Z (by omega) (by decide)) (zM _) Z.2.1 Z.2.1 rfl rfl ?_
      replace hf := bz_i hf
      obtain ⟨z23, hf⟩ := hf
      cases hf
      exact J_zret Z.1 Z.2.2.2.2.2 (z_n z23) dX9_holds_85
    · rw [if_pos c17] at hf
      refine J_aload_n Z.1 0 dX9_holds_60 rfl rfl ?_
      refine J_get (v := va_rf (hR h13 this 2)) Z.1 dX9_holds_61 fl_X9_27 t0 rfl ?_
      refine J_tr (fun r24 er24 => ?_)
      replace hf := lt_i hf r24 er24
      refine J_aload_n Z.1 0 dX9_holds_64 rfl rfl ?_
      refine J_get (v := va_rf (hR h13 this 3)) Z.1 dX9_holds_65 fl_X9_31 t0 rfl ?_
      refine J_tr (fun r25 er25 => ?_)
      replace hf := lt_i hf r25 er25
      replace hf := nn_i hf
      obtain ⟨a24, rfl, hf⟩ := hf
      replace hf := tg_i hf
      obtain ⟨t26, hf⟩ := hf
      replace hf := nn_i hf
      obtain ⟨a25, rfl, hf⟩ := hf
      replace hf := bd_i hf
      obtain ⟨x27, q28, hf⟩ := hf
      refine J_callV (ci := 3) (as := [va_rf (some a25)]) (rest := []) (sy := [.int x27]) Z.1 dX9_holds_68 cw_X9_327 (pX4_isLess_ok G (dk - 1) (by omega) q28) rfl rfl t26 (zG Z) rfl (by decide) (zF Z (by omega)) (zO Z (by omega) (by decide)) (zM _) Z.2.1 Z.2.1 rfl rfl ?_
      refine J_goto Z.1 85 dX9_holds_71 (by decide) ?_
      replace hf := bz_i hf
      obtain ⟨z29, hf⟩ := hf
      cases hf
      exact J_zret Z.1 Z.2.2.2.2.2 (z_n z29) dX9_holds_85
  · rw [if_pos c9] at hf
    refine J_aload_n Z.1 0 dX9_holds_26 rfl rfl ?_
    refine J_get (v := va_rf (hR h5 this 2)) Z.1 dX9_holds_27 fl_X9_27 t0 rfl ?_
    refine J_tr (fun r30 er30 => ?_)
    replace hf := lt_i hf r30 er30
    replace hf := nn_i hf
    obtain ⟨a30, rfl, hf⟩ := hf
    replace hf := tg_i hf
    obtain ⟨t31, hf⟩ := hf
    refine J_get (v := .int (hI h5 a30 1)) Z.1 dX9_holds_30 fl_X9_321 t31 rfl ?_
    replace hf := bz_i hf
    obtain ⟨z32, hf⟩ := hf
    cases hf
    exact J_zret Z.1 Z.2.2.2.2.2 (z_n z32) dX9_holds_33
theorem dX9_packElement_0 : decode cX9_packElement 0 = .ok (.aload_n 0, 1) := by decide +kernel
theorem dX9_packElement_1 : decode cX9_packElement 1 = .ok (.getfield 34, 3) := by decide +kernel
theorem dX9_packElement_4 : decode cX9_packElement 4 = .ok (.iload_n 2, 1) := by decide +kernel
theorem dX9_packElement_5 : decode cX9_packElement 5 = .ok (.invokevirtual 312, 3) := by decide +kernel
theorem dX9_packElement_8 : decode cX9_packElement 8 = .ok (.ifCond .eq 48, 3) := by decide +kernel
theorem dX9_packElement_11 : decode cX9_packElement 11 = .ok (.aload_n 0, 1) := by decide +kernel
theorem dX9_packElement_12 : decode cX9_packElement 12 = .ok (.getfield 34, 3) := by decide +kernel
theorem dX9_packElement_15 : decode cX9_packElement 15 = .ok (.aload_n 1, 1) := by decide +kernel
theorem dX9_packElement_16 : decode cX9_packElement 16 = .ok (.getfield 267, 3) := by decide +kernel
theorem dX9_packElement_19 : decode cX9_packElement 19 = .ok (.iload_n 2, 1) := by decide +kernel
theorem dX9_packElement_20 : decode cX9_packElement 20 = .ok (.aload_n 0, 1) := by decide +kernel
theorem dX9_packElement_21 : decode cX9_packElement 21 = .ok (.getfield 27, 3) := by decide +kernel
theorem dX9_packElement_24 : decode cX9_packElement 24 = .ok (.invokevirtual 273, 3) := by decide +kernel
theorem dX9_packElement_27 : decode cX9_packElement 27 = .ok (.aload_n 0, 1) := by decide +kernel
theorem dX9_packElement_28 : decode cX9_packElement 28 = .ok (.getfield 34, 3) := by decide +kernel
theorem dX9_packElement_31 : decode cX9_packElement 31 = .ok (.aload_n 1, 1) := by decide +kernel
theorem dX9_packElement_32 : decode cX9_packElement 32 = .ok (.getfield 189, 3) := by decide +kernel
theorem dX9_packElement_35 : decode cX9_packElement 35 = .ok (.aload_n 0, 1) := by decide +kernel
theorem dX9_packElement_36 : decode cX9_packElement 36 = .ok (.getfield 235, 3) := by decide +kernel
theorem dX9_packElement_39 : decode cX9_packElement 39 = .ok (.aload_n 0, 1) := by decide +kernel
theorem dX9_packElement_40 : decode cX9_packElement 40 = .ok (.getfield 27, 3) := by decide +kernel
theorem dX9_packElement_43 : decode cX9_packElement 43 = .ok (.invokevirtual 315, 3) := by decide +kernel
theorem dX9_packElement_46 : decode cX9_packElement 46 = .ok (.aload_n 0, 1) := by decide +kernel
theorem dX9_packElement_47 : decode cX9_packElement 47 = .ok (.dup, 1) := by decide +kernel
theorem dX9_packElement_48 : decode cX9_packElement 48 = .ok (.getfield 235, 3) := by decide +kernel
theorem dX9_packElement_51 : decode cX9_packElement 51 = .ok (.iconst 1, 1) := by decide +kernel
theorem dX9_packElement_52 : decode cX9_packElement 52 = .ok (.iadd, 1) := by decide +kernel
theorem dX9_packElement_53 : decode cX9_packElement 53 = .ok (.putfield 235, 3) := by decide +kernel
theorem dX9_packElement_56 : decode cX9_packElement 56 = .ok (.return_, 1) := by decide +kernel
def pX9_packElement (g : MT) (h : CT) (this : Nat) (p1 : Nat) (p2 : Int32) : Option CT := tg g this 8 (lt (hR h this 4) fun r1 => (nn r1 fun a1 => (tg g a1 3 (bd (pX3_bit g h a1 p2) fun x3 => (if x3 = 0 then some h else lt (hR h this 4) fun r6 => (tg g p1 2 (lt (hR h this 2) fun r8 => (nn r6 fun a6 => (tg g a6 3 (nn r8 fun a8 => (bd (pX3_fetch g h a6 (hI h p1 2) p2 a8) fun h10 => (lt (hR h10 this 4) fun r12 => (lt (hR h10 this 2) fun r13 => (nn r12 fun a12 => (tg g a12 3 (nn r13 fun a13 => (bd (pX3_land g h10 a12 (hI h10 p1 1) (hI h10 this 10) a13) fun h15 => (lt (sI h15 this 10 ((hI h15 this 10) + 1)) fun h17 => (some h17)))))))))))))))))))
set_option maxRecDepth 10000 in
set_option maxHeartbeats 4000000 in
theorem pX9_packElement_ok (G : Gx) (dk : Nat) (hK : 2 ≤ dk) {g : MT} {h h0 : CT} {this : Nat} {p1 : Nat} {p2 : Int32} (hf : pX9_packElement g h this p1 p2 = some h0) : Ctr G dk yX9_packElement cX9_packElement 3 none [va_rf (some this), va_rf (some p1), .int p2] g h none g h0 := by
  refine Ctr.ofZ (lv := [(0, va_rf (some this)), (1, va_rf (some p1)), (2, .int p2)]) (by decide +kernel) (by simp [cat_i, cat_l, cat_d, cat_rf]) rfl fun X Z => ?_
  unfold pX9_packElement at hf
  replace hf := tg_i hf
  obtain ⟨t0, hf⟩ := hf
  refine J_aload_n Z.1 0 dX9_packElement_0 rfl rfl ?_
  refine J_get (v := va_rf (hR h this 4)) Z.1 dX9_packElement_1 fl_X9_34 t0 rfl ?_
  refine J_tr (fun r1 er1 => ?_)
  replace hf := lt_i hf r1 er1
  refine J_iload_n Z.1 2 dX9_packElement_4 rfl rfl ?_
  replace hf := nn_i hf
  obtain ⟨a1, rfl, hf⟩ := hf
  replace hf := tg_i hf
  obtain ⟨t2, hf⟩ := hf
  replace hf := bd_i hf
  obtain ⟨x3, q4, hf⟩ := hf
  refine J_callV (ci := 2) (as := [.int p2]) (rest := []) (sy := [.int x3]) Z.1 dX9_packElement_5 cw_X9_312 (pX3_bit_ok G (dk - 1) (by omega) q4) rfl rfl t2 (zG Z) rfl (by decide) (zF Z (by omega)) (zO Z (by omega) (by decide)) (zM _) Z.2.1 Z.2.1 rfl rfl ?_
  refine J_if_eq Z.1 56 dX9_packElement_8 (by decide) (fun c5 => ?_) (fun c5 => ?_)
  · rw [if_pos c5] at hf
    cases hf
    exact J_vret Z.1 Z.2.2.2.2.2 dX9_packElement_56
  · rw [if_neg c5] at hf
    refine J_aload_n Z.1 0 dX9_packElement_11 rfl rfl ?_
    refine J_get (v := va_rf (hR h this 4)) Z.1 dX9_packElement_12 fl_X9_34 t0 rfl ?_
    refine J_tr (fun r6 er6 => ?_)
    replace hf := lt_i hf r6 er6
    refine J_aload_n Z.1 1 dX9_packElement_15 rfl rfl ?_
    replace hf := tg_i hf
    obtain ⟨t7, hf⟩ := hf
    refine J_get (v := .int (hI h p1 2)) Z.1 dX9_packElement_16 fl_X9_267 t7 rfl ?_
    refine J_iload_n Z.1 2 dX9_packElement_19 rfl rfl ?_
    refine J_aload_n Z.1 0 dX9_packElement_20 rfl rfl ?_
    refine J_get (v := va_rf (hR h this 2)) Z.1 dX9_packElement_21 fl_X9_27 t0 rfl ?_
    refine J_tr (fun r8 er8 => ?_)
    replace hf := lt_i hf r8 er8
    replace hf := nn_i hf
    obtain ⟨a6, rfl, hf⟩ := hf
    replace hf := tg_i hf
    obtain ⟨t9, hf⟩ := hf
    replace hf := nn_i hf
    obtain ⟨a8, rfl, hf⟩ := hf
    replace hf := bd_i hf
    obtain ⟨h10, q11, hf⟩ := hf
    refine J_callV (ci := 2) (as := [.int (hI h p1 2), .int p2, va_rf (some a8)]) (rest := []) (sy := []) Z.1 dX9_packElement_24 cw_X9_273 (pX3_fetch_ok G (dk - 1) (by omega) q11) rfl rfl t9 (zG Z) rfl (by decide) (zF Z (by omega)) (zO Z (by omega) (by decide)) (zM _) Z.2.1 Z.2.1 rfl rfl ?_
    refine J_aload_n Z.1 0 dX9_packElement_27 rfl rfl ?_
    refine J_get (v := va_rf (hR h10 this 4)) Z.1 dX9_packElement_28 fl_X9_34 t0 rfl ?_
    refine J_tr (fun r12 er12 => ?_)
    replace hf := lt_i hf r12 er12
    refine J_aload_n Z.1 1 dX9_packElement_31 rfl rfl ?_
    refine J_get (v := .int (hI h10 p1 1)) Z.1 dX9_packElement_32 fl_X9_189 t7 rfl ?_
    refine J_aload_n Z.1 0 dX9_packElement_35 rfl rfl ?_
    refine J_get (v := .int (hI h10 this 10)) Z.1 dX9_packElement_36 fl_X9_235 t0 rfl ?_
    refine J_aload_n Z.1 0 dX9_packElement_39 rfl rfl ?_
    refine J_get (v := va_rf (hR h10 this 2)) Z.1 dX9_packElement_40 fl_X9_27 t0 rfl ?_
    refine J_tr (fun r13 er13 => ?_)
    replace hf := lt_i hf r13 er13
    replace hf := nn_i hf
    obtain ⟨a12, rfl, hf⟩ := hf
    replace hf := tg_i hf
    obtain ⟨t14, hf⟩ := hf
    replace hf := nn_i hf
    obtain ⟨a13, rfl, hf⟩ := hf
    replace hf := bd_i hf
    obtain ⟨h15, q16, hf⟩ := hf
    refine J_callV (ci := 2) (as := [.int (hI h10 p1 1), .int (hI h10 this 10), va_rf (some a13)]) (rest := []) (sy := []) Z.1 dX9_packElement_43 cw_X9_315 (pX3_land_ok G (dk - 1) (by omega) q16) rfl rfl t14 (zG Z) rfl (by decide) (zF Z (by omega)) (zO Z (by omega) (by decide)) (zM _) Z.2.1 Z.2.1 rfl rfl ?_
    refine J_aload_n Z.1 0 dX9_packElement_46 rfl rfl ?_
    refine J_dup Z.1 dX9_packElement_47 rfl ?_
    refine J_get (v := .int (hI h15 this 10)) Z.1 dX9_packElement_48 fl_X9_235 t0 rfl ?_
    refine J_iconst Z.1 (v := 1) (by decide) dX9_packElement_51 ?_
    refine J_iadd Z.1 dX9_packElement_52 ?_
    refine J_putI Z.1 dX9_packElement_53 fl_X9_235 (fun q => by cases q) t0 rfl rfl (congrArg Value.int (hI_s _ _ _ _)) ?_
    refine J_th (fun h17 eh17 => ?_)
    replace hf := lt_i hf h17 eh17
    cases hf
    exact J_vret Z.1 Z.2.2.2.2.2 dX9_packElement_56
theorem dX9_reckon_0 : decode cX9_reckon 0 = .ok (.aload_n 1, 1) := by decide +kernel
theorem dX9_reckon_1 : decode cX9_reckon 1 = .ok (.getfield 84, 3) := by decide +kernel
theorem dX9_reckon_4 : decode cX9_reckon 4 = .ok (.iconst 4, 1) := by decide +kernel
theorem dX9_reckon_5 : decode cX9_reckon 5 = .ok (.invokevirtual 238, 3) := by decide +kernel
theorem dX9_reckon_8 : decode cX9_reckon 8 = .ok (.ifCond .eq 19, 3) := by decide +kernel
theorem dX9_reckon_11 : decode cX9_reckon 11 = .ok (.aload_n 0, 1) := by decide +kernel
theorem dX9_reckon_12 : decode cX9_reckon 12 = .ok (.getfield 34, 3) := by decide +kernel
theorem dX9_reckon_15 : decode cX9_reckon 15 = .ok (.aload_n 1, 1) := by decide +kernel
theorem dX9_reckon_16 : decode cX9_reckon 16 = .ok (.getfield 267, 3) := by decide +kernel
theorem dX9_reckon_19 : decode cX9_reckon 19 = .ok (.iload_n 2, 1) := by decide +kernel
theorem dX9_reckon_20 : decode cX9_reckon 20 = .ok (.aload_n 0, 1) := by decide +kernel
theorem dX9_reckon_21 : decode cX9_reckon 21 = .ok (.getfield 27, 3) := by decide +kernel
theorem dX9_reckon_24 : decode cX9_reckon 24 = .ok (.invokevirtual 273, 3) := by decide +kernel
theorem dX9_reckon_27 : decode cX9_reckon 27 = .ok (.aload_n 1, 1) := by decide +kernel
theorem dX9_reckon_28 : decode cX9_reckon 28 = .ok (.getfield 84, 3) := by decide +kernel
theorem dX9_reckon_31 : decode cX9_reckon 31 = .ok (.bipush 8, 2) := by decide +kernel
theorem dX9_reckon_33 : decode cX9_reckon 33 = .ok (.invokevirtual 238, 3) := by decide +kernel
theorem dX9_reckon_36 : decode cX9_reckon 36 = .ok (.ifCond .eq 19, 3) := by decide +kernel
theorem dX9_reckon_39 : decode cX9_reckon 39 = .ok (.aload_n 0, 1) := by decide +kernel
theorem dX9_reckon_40 : decode cX9_reckon 40 = .ok (.getfield 34, 3) := by decide +kernel
theorem dX9_reckon_43 : decode cX9_reckon 43 = .ok (.aload_n 1, 1) := by decide +kernel
theorem dX9_reckon_44 : decode cX9_reckon 44 = .ok (.getfield 270, 3) := by decide +kernel
theorem dX9_reckon_47 : decode cX9_reckon 47 = .ok (.iload_n 2, 1) := by decide +kernel
theorem dX9_reckon_48 : decode cX9_reckon 48 = .ok (.aload_n 0, 1) := by decide +kernel
theorem dX9_reckon_49 : decode cX9_reckon 49 = .ok (.getfield 31, 3) := by decide +kernel
theorem dX9_reckon_52 : decode cX9_reckon 52 = .ok (.invokevirtual 273, 3) := by decide +kernel
theorem dX9_reckon_55 : decode cX9_reckon 55 = .ok (.getstatic 145, 3) := by decide +kernel
theorem dX9_reckon_58 : decode cX9_reckon 58 = .ok (.aload_n 1, 1) := by decide +kernel
theorem dX9_reckon_59 : decode cX9_reckon 59 = .ok (.getfield 84, 3) := by decide +kernel
theorem dX9_reckon_62 : decode cX9_reckon 62 = .ok (.invokevirtual 151, 3) := by decide +kernel
theorem dX9_reckon_65 : decode cX9_reckon 65 = .ok (.iaload, 1) := by decide +kernel
theorem dX9_reckon_66 : decode cX9_reckon 66 = .ok (.tableswitch 239 6 18 #[66, 78, 99, 99, 117, 131, 145, 159, 173, 191, 205, 219, 229], 66) := by decide +kernel
theorem dX9_reckon_132 : decode cX9_reckon 132 = .ok (.aload_n 0, 1) := by decide +kernel
theorem dX9_reckon_133 : decode cX9_reckon 133 = .ok (.getfield 27, 3) := by decide +kernel
theorem dX9_reckon_136 : decode cX9_reckon 136 = .ok (.iload_n 2, 1) := by decide +kernel
theorem dX9_reckon_137 : decode cX9_reckon 137 = .ok (.i2d, 1) := by decide +kernel
theorem dX9_reckon_138 : decode cX9_reckon 138 = .ok (.invokevirtual 169, 3) := by decide +kernel
theorem dX9_reckon_141 : decode cX9_reckon 141 = .ok (.goto 164, 3) := by decide +kernel
theorem dX9_reckon_144 : decode cX9_reckon 144 = .ok (.aload_n 0, 1) := by decide +kernel
theorem dX9_reckon_145 : decode cX9_reckon 145 = .ok (.getfield 34, 3) := by decide +kernel
theorem dX9_reckon_148 : decode cX9_reckon 148 = .ok (.getfield 173, 3) := by decide +kernel
theorem dX9_reckon_151 : decode cX9_reckon 151 = .ok (.aload_n 1, 1) := by decide +kernel
theorem dX9_reckon_152 : decode cX9_reckon 152 = .ok (.getfield 176, 3) := by decide +kernel
theorem dX9_reckon_155 : decode cX9_reckon 155 = .ok (.aload_n 0, 1) := by decide +kernel
theorem dX9_reckon_156 : decode cX9_reckon 156 = .ok (.getfield 27, 3) := by decide +kernel
theorem dX9_reckon_159 : decode cX9_reckon 159 = .ok (.invokevirtual 218, 3) := by decide +kernel
theorem dX9_reckon_162 : decode cX9_reckon 162 = .ok (.goto 143, 3) := by decide +kernel
theorem dX9_reckon_165 : decode cX9_reckon 165 = .ok (.aload_n 0, 1) := by decide +kernel
theorem dX9_reckon_166 : decode cX9_reckon 166 = .ok (.getfield 34, 3) := by decide +kernel
theorem dX9_reckon_169 : decode cX9_reckon 169 = .ok (.getfield 289, 3) := by decide +kernel
theorem dX9_reckon_172 : decode cX9_reckon 172 = .ok (.iload_n 3, 1) := by decide +kernel
theorem dX9_reckon_173 : decode cX9_reckon 173 = .ok (.aload_n 0, 1) := by decide +kernel
theorem dX9_reckon_174 : decode cX9_reckon 174 = .ok (.getfield 27, 3) := by decide +kernel
theorem dX9_reckon_177 : decode cX9_reckon 177 = .ok (.invokevirtual 218, 3) := by decide +kernel
theorem dX9_reckon_180 : decode cX9_reckon 180 = .ok (.goto 125, 3) := by decide +kernel
theorem dX9_reckon_183 : decode cX9_reckon 183 = .ok (.aload_n 0, 1) := by decide +kernel
theorem dX9_reckon_184 : decode cX9_reckon 184 = .ok (.getfield 27, 3) := by decide +kernel
theorem dX9_reckon_187 : decode cX9_reckon 187 = .ok (.aload_n 0, 1) := by decide +kernel
theorem dX9_reckon_188 : decode cX9_reckon 188 = .ok (.getfield 31, 3) := by decide +kernel
theorem dX9_reckon_191 : decode cX9_reckon 191 = .ok (.invokevirtual 225, 3) := by decide +kernel
theorem dX9_reckon_194 : decode cX9_reckon 194 = .ok (.goto 111, 3) := by decide +kernel
theorem dX9_reckon_197 : decode cX9_reckon 197 = .ok (.aload_n 0, 1) := by decide +kernel
theorem dX9_reckon_198 : decode cX9_reckon 198 = .ok (.getfield 27, 3) := by decide +kernel
theorem dX9_reckon_201 : decode cX9_reckon 201 = .ok (.aload_n 0, 1) := by decide +kernel
theorem dX9_reckon_202 : decode cX9_reckon 202 = .ok (.getfield 31, 3) := by decide +kernel
theorem dX9_reckon_205 : decode cX9_reckon 205 = .ok (.invokevirtual 334, 3) := by decide +kernel
theorem dX9_reckon_208 : decode cX9_reckon 208 = .ok (.goto 97, 3) := by decide +kernel
theorem dX9_reckon_211 : decode cX9_reckon 211 = .ok (.aload_n 0, 1) := by decide +kernel
theorem dX9_reckon_212 : decode cX9_reckon 212 = .ok (.getfield 27, 3) := by decide +kernel
theorem dX9_reckon_215 : decode cX9_reckon 215 = .ok (.aload_n 0, 1) := by decide +kernel
theorem dX9_reckon_216 : decode cX9_reckon 216 = .ok (.getfield 31, 3) := by decide +kernel
theorem dX9_reckon_219 : decode cX9_reckon 219 = .ok (.invokevirtual 337, 3) := by decide +kernel
theorem dX9_reckon_222 : decode cX9_reckon 222 = .ok (.goto 83, 3) := by decide +kernel
theorem dX9_reckon_225 : decode cX9_reckon 225 = .ok (.aload_n 0, 1) := by decide +kernel
theorem dX9_reckon_226 : decode cX9_reckon 226 = .ok (.getfield 27, 3) := by decide +kernel
theorem dX9_reckon_229 : decode cX9_reckon 229 = .ok (.aload_n 0, 1) := by decide +kernel
theorem dX9_reckon_230 : decode cX9_reckon 230 = .ok (.getfield 31, 3) := by decide +kernel
theorem dX9_reckon_233 : decode cX9_reckon 233 = .ok (.invokevirtual 339, 3) := by decide +kernel
theorem dX9_reckon_236 : decode cX9_reckon 236 = .ok (.goto 69, 3) := by decide +kernel
theorem dX9_reckon_239 : decode cX9_reckon 239 = .ok (.aload_n 0, 1) := by decide +kernel
theorem dX9_reckon_240 : decode cX9_reckon 240 = .ok (.getfield 9, 3) := by decide +kernel
theorem dX9_reckon_243 : decode cX9_reckon 243 = .ok (.aload_n 0, 1) := by decide +kernel
theorem dX9_reckon_244 : decode cX9_reckon 244 = .ok (.getfield 27, 3) := by decide +kernel
theorem dX9_reckon_247 : decode cX9_reckon 247 = .ok (.aload_n 0, 1) := by decide +kernel
theorem dX9_reckon_248 : decode cX9_reckon 248 = .ok (.getfield 31, 3) := by decide +kernel
theorem dX9_reckon_251 : decode cX9_reckon 251 = .ok (.invokevirtual 342, 3) := by decide +kernel
theorem dX9_reckon_254 : decode cX9_reckon 254 = .ok (.goto 51, 3) := by decide +kernel
theorem dX9_reckon_257 : decode cX9_reckon 257 = .ok (.aload_n 0, 1) := by decide +kernel
theorem dX9_reckon_258 : decode cX9_reckon 258 = .ok (.getfield 27, 3) := by decide +kernel
theorem dX9_reckon_261 : decode cX9_reckon 261 = .ok (.aload_n 0, 1) := by decide +kernel
theorem dX9_reckon_262 : decode cX9_reckon 262 = .ok (.getfield 31, 3) := by decide +kernel
theorem dX9_reckon_265 : decode cX9_reckon 265 = .ok (.invokevirtual 348, 3) := by decide +kernel
theorem dX9_reckon_268 : decode cX9_reckon 268 = .ok (.goto 37, 3) := by decide +kernel
theorem dX9_reckon_271 : decode cX9_reckon 271 = .ok (.aload_n 0, 1) := by decide +kernel
theorem dX9_reckon_272 : decode cX9_reckon 272 = .ok (.getfield 27, 3) := by decide +kernel
theorem dX9_reckon_275 : decode cX9_reckon 275 = .ok (.aload_n 0, 1) := by decide +kernel
theorem dX9_reckon_276 : decode cX9_reckon 276 = .ok (.getfield 31, 3) := by decide +kernel
theorem dX9_reckon_279 : decode cX9_reckon 279 = .ok (.invokevirtual 221, 3) := by decide +kernel
theorem dX9_reckon_282 : decode cX9_reckon 282 = .ok (.goto 23, 3) := by decide +kernel
theorem dX9_reckon_285 : decode cX9_reckon 285 = .ok (.aload_n 0, 1) := by decide +kernel
theorem dX9_reckon_286 : decode cX9_reckon 286 = .ok (.getfield 27, 3) := by decide +kernel
theorem dX9_reckon_289 : decode cX9_reckon 289 = .ok (.invokevirtual 351, 3) := by decide +kernel
theorem dX9_reckon_292 : decode cX9_reckon 292 = .ok (.goto 13, 3) := by decide +kernel
theorem dX9_reckon_295 : decode cX9_reckon 295 = .ok (.aload_n 0, 1) := by decide +kernel
theorem dX9_reckon_296 : decode cX9_reckon 296 = .ok (.getfield 27, 3) := by decide +kernel
theorem dX9_reckon_299 : decode cX9_reckon 299 = .ok (.invokevirtual 354, 3) := by decide +kernel
theorem dX9_reckon_302 : decode cX9_reckon 302 = .ok (.goto 3, 3) := by decide +kernel
theorem dX9_reckon_305 : decode cX9_reckon 305 = .ok (.return_, 1) := by decide +kernel
def pX9_reckon_b55 (E : EC) (g : MT) (this : Nat) (p1 : Nat) (p2 : Int32) (p3 : Int32) (h : CT) : Option CT := kR (E.1 2) fun a1 => (tg g p1 2 (lt (hR h p1 0) fun r3 => (nn r3 fun a3 => (tg E.2.2 a3 60 (bd (pJx29ce0_ordinal_8abf5 E g h a3) fun x5 => (tg E.2.2 a1 20 (ix (gL E.2.2 a1) x5 (lt (hI E.2.1 a1 (Int32.toNatClampNeg x5)) fun x9 => (if x9 = 6 then lt (hR h this 2) fun r11 => (nn r11 fun a11 => (tg g a11 4 (bd (pX4_set g h a11 (fi2d p2)) fun h13 => (some h13)))) else (if x9 = 7 then lt (hR h this 4) fun r16 => (nn r16 fun a16 => (tg g a16 3 (lt (hR h a16 2) fun r18 => (lt (hR h this 2) fun r19 => (nn r18 fun a18 => (tg g a18 7 (nn r19 fun a19 => (bd (pX8_fetch g h a18 (hI h p1 4) a19) fun h21 => (some h21))))))))) else (if x9 = 8 then lt (hR h this 4) fun r24 => (nn r24 fun a24 => (tg g a24 3 (lt (hR h a24 3) fun r26 => (lt (hR h this 2) fun r27 => (nn r26 fun a26 => (tg g a26 7 (nn r27 fun a27 => (bd (pX8_fetch g h a26 p3 a27) fun h29 => (some h29))))))))) else (if x9 = 9 then lt (hR h this 4) fun r32 => (nn r32 fun a32 => (tg g a32 3 (lt (hR h a32 3) fun r34 => (lt (hR h this 2) fun r35 => (nn r34 fun a34 => (tg g a34 7 (nn r35 fun a35 => (bd (pX8_fetch g h a34 p3 a35) fun h37 => (some h37))))))))) else (if x9 = 10 then lt (hR h this 2) fun r40 => (lt (hR h this 3) fun r41 => (nn r40 fun a40 => (tg g a40 4 (nn r41 fun a41 => (bd (pX4_plus g h a40 a41) fun h43 => (some h43)))))) else (if x9 = 11 then lt (hR h this 2) fun r46 => (lt (hR h this 3) fun r47 => (nn r46 fun a46 => (tg g a46 4 (nn r47 fun a47 => (bd (pX4_minus g h a46 a47) fun h49 => (some h49)))))) else (if x9 = 12 then lt (hR h this 2) fun r52 => (lt (hR h this 3) fun r53 => (nn r52 fun a52 => (tg g a52 4 (nn r53 fun a53 => (bd (pX4_times g h a52 a53) fun h55 => (some h55)))))) else (if x9 = 13 then lt (hR h this 2) fun r58 => (lt (hR h this 3) fun r59 => (nn r58 fun a58 => (tg g a58 4 (nn r59 fun a59 => (bd (pX4_over g h a58 a59) fun h61 => (some h61)))))) else (if x9 = 14 then lt (hR h this 0) fun r64 => (lt (hR h this 2) fun r65 => (lt (hR h this 3) fun r66 => (nn r64 fun a64 => (tg g a64 1 (nn r65 fun a65 => (nn r66 fun a66 => (bd (pX1_remainder g h a64 a65 a66) fun h68 => (some h68)))))))) else (if x9 = 15 then lt (hR h this 2) fun r71 => (lt (hR h this 3) fun r72 => (nn r71 fun a71 => (tg g a71 4 (nn r72 fun a72 => (bd (pX4_least g h a71 a72) fun h74 => (some h74)))))) else (if x9 = 16 then lt (hR h this 2) fun r77 => (lt (hR h this 3) fun r78 => (nn r77 fun a77 => (tg g a77 4 (nn r78 fun a78 => (bd (pX4_most g h a77 a78) fun h80 => (some h80)))))) else (if x9 = 17 then lt (hR h this 2) fun r83 => (nn r83 fun a83 => (tg g a83 4 (bd (pX4_toSingle g h a83) fun h85 => (some h85)))) else (if x9 = 18 then lt (hR h this 2) fun r88 => (nn r88 fun a88 => (tg g a88 4 (bd (pX4_toWhole g h a88) fun h90 => (some h90)))) else (some h))))))))))))))))))))))
set_option maxRecDepth 10000 in
set_option maxHeartbeats 4000000 in
theorem pX9_reckon_b55_ok {X : Cx} {G : Gx} {dk : Nat} {g : MT} {h0 : CT} {this : Nat} {p1 : Nat} {p2 : Int32} {p3 : Int32} (Z : Zx X G cX9_reckon RX9 4 dk none none g h0) (hK : 2 ≤ dk) {E : EC} (hE : G.2.2.2 = E) (t0 : gT g this = 8) (h : CT) (hf : pX9_reckon_b55 E g this p1 p2 p3 h = some h0) : J X g h 55 [(0, va_rf (some this)), (1, va_rf (some p1)), (2, .int p2), (3, .int p3)] [] := by
  unfold pX9_reckon_b55 at hf
  replace hf := kR_i hf
  obtain ⟨a1, ea1, hf⟩ := hf
  refine J_gets (i := 2) (v := va_rf (some a1)) Z.1 dX9_reckon_55 rfl q_1029 (zEv Z hE ea1) rfl ?_
  refine J_aload_n Z.1 1 dX9_reckon_58 rfl rfl ?_
  replace hf := tg_i hf
  obtain ⟨t2, hf⟩ := hf
  refine J_get (v := va_rf (hR h p1 0)) Z.1 dX9_reckon_59 fl_X9_84 t2 rfl ?_
  refine J_tr (fun r3 er3 => ?_)
  replace hf := lt_i hf r3 er3
  replace hf := nn_i hf
  obtain ⟨a3, rfl, hf⟩ := hf
  replace hf := tg_i hf
  obtain ⟨t4, hf⟩ := hf
  rw [← zE Z hE] at t4
  replace hf := bd_i hf
  obtain ⟨x5, q6, hf⟩ := hf
  refine J_callU (as := []) (rest := [va_rf (some a1)]) (sy := [.int x5, va_rf (some a1)]) (x := ⟨RX5, "ordinal", "()I"⟩) (C := RX5) (owner := "java/lang/Enum") Z.1 dX9_reckon_62 uw_X9_151 rfl ⟨by decide +kernel, by decide +kernel, by decide +kernel⟩ (pJx29ce0_ordinal_8abf5_ok G (dk - 1) (by omega) hE q6) (kO Z.1 t4) (zG Z) rfl (by simp [cat_i, cat_l, cat_d, cat_rf]) (zF Z (by omega)) (zO Z (by omega) (by decide)) (zM _) Z.2.1 Z.2.1 rfl rfl ?_
  replace hf := tg_i hf
  obtain ⟨t7, hf⟩ := hf
  rw [← zE Z hE] at t7
  replace hf := ix_i hf
  obtain ⟨i8, hf⟩ := hf
  refine J_ialdK Z.1 dX9_reckon_65 t7 (by rw [zE Z hE]; exact i8) ?_
  rw [zE Z hE]
  refine J_ti (fun x9 ex9 => ?_)
  replace hf := lt_i hf x9 ex9
  by_cases c10 : x9 = 6
  · rw [if_pos c10] at hf
    refine J_tabIn (off := 66) Z.1 132 dX9_reckon_66 (by rw [c10]; decide) (by rw [c10]; decide) (by rw [c10]; decide) (by decide) ?_
    refine J_aload_n Z.1 0 dX9_reckon_132 rfl rfl ?_
    refine J_get (v := va_rf (hR h this 2)) Z.1 dX9_reckon_133 fl_X9_27 t0 rfl ?_
    refine J_tr (fun r11 er11 => ?_)
    replace hf := lt_i hf r11 er11
    refine J_iload_n Z.1 2 dX9_reckon_136 rfl rfl ?_
    refine J_i2d Z.1 dX9_reckon_137 ?_
    replace hf := nn_i hf
    obtain ⟨a11, rfl, hf⟩ := hf
    replace hf := tg_i hf
    obtain ⟨t12, hf⟩ := hf
    replace hf := bd_i hf
    obtain ⟨h13, q14, hf⟩ := hf
    refine J_callV (ci := 3) (as := [.double (fi2d p2)]) (rest := []) (sy := []) Z.1 dX9_reckon_138 cw_X9_169 (pX4_set_ok G (dk - 1) (by omega) q14) rfl rfl t12 (zG Z) rfl (by decide) (zF Z (by omega)) (zO Z (by omega) (by decide)) (zM _) Z.2.1 Z.2.1 rfl rfl ?_
    refine J_goto Z.1 305 dX9_reckon_141 (by decide) ?_
    cases hf
    exact J_vret Z.1 Z.2.2.2.2.2 dX9_reckon_305
  rw [if_neg c10] at hf
  by_cases c15 : x9 = 7
  · rw [if_pos c15] at hf
    refine J_tabIn (off := 78) Z.1 144 dX9_reckon_66 (by rw [c15]; decide) (by rw [c15]; decide) (by rw [c15]; decide) (by decide) ?_
    refine J_aload_n Z.1 0 dX9_reckon_144 rfl rfl ?_
    refine J_get (v := va_rf (hR h this 4)) Z.1 dX9_reckon_145 fl_X9_34 t0 rfl ?_
    refine J_tr (fun r16 er16 => ?_)
    replace hf := lt_i hf r16 er16
    replace hf := nn_i hf
    obtain ⟨a16, rfl, hf⟩ := hf
    replace hf := tg_i hf
    obtain ⟨t17, hf⟩ := hf
    refine J_get (v := va_rf (hR h a16 2)) Z.1 dX9_reckon_148 fl_X9_173 t17 rfl ?_
    refine J_tr (fun r18 er18 => ?_)
    replace hf := lt_i hf r18 er18
    refine J_aload_n Z.1 1 dX9_reckon_151 rfl rfl ?_
    refine J_get (v := .int (hI h p1 4)) Z.1 dX9_reckon_152 fl_X9_176 t2 rfl ?_
    refine J_aload_n Z.1 0 dX9_reckon_155 rfl rfl ?_
    refine J_get (v := va_rf (hR h this 2)) Z.1 dX9_reckon_156 fl_X9_27 t0 rfl ?_
    refine J_tr (fun r19 er19 => ?_)
    replace hf := lt_i hf r19 er19
    replace hf := nn_i hf
    obtain ⟨a18, rfl, hf⟩ := hf
    replace hf := tg_i hf
    obtain ⟨t20, hf⟩ := hf
    replace hf := nn_i hf
    obtain ⟨a19, rfl, hf⟩ := hf
    replace hf := bd_i hf
    obtain ⟨h21, q22, hf⟩ := hf
    refine J_callV (ci := 6) (as := [.int (hI h p1 4), va_rf (some a19)]) (rest := []) (sy := []) Z.1 dX9_reckon_159 cw_X9_218 (pX8_fetch_ok G (dk - 1) (by omega) q22) rfl rfl t20 (zG Z) rfl (by decide) (zF Z (by omega)) (zO Z (by omega) (by decide)) (zM _) Z.2.1 Z.2.1 rfl rfl ?_
    refine J_goto Z.1 305 dX9_reckon_162 (by decide) ?_
    cases hf
    exact J_vret Z.1 Z.2.2.2.2.2 dX9_reckon_305
  rw [if_neg c15] at hf
  by_cases c23 : x9 = 8
  · rw [if_pos c23] at hf
    refine J_tabIn (off := 99) Z.1 165 dX9_reckon_66 (by rw [c23]; decide) (by rw [c23]; decide) (by rw [c23]; decide) (by decide) ?_
    refine J_aload_n Z.1 0 dX9_reckon_165 rfl rfl ?_
    refine J_get (v := va_rf (hR h this 4)) Z.1 dX9_reckon_166 fl_X9_34 t0 rfl ?_
    refine J_tr (fun r24 er24 => ?_)
    replace hf := lt_i hf r24 er24
    replace hf := nn_i hf
    obtain ⟨a24, rfl, hf⟩ := hf
    replace hf := tg_i hf
    obtain ⟨t25, hf⟩ := hf
    refine J_get (v := va_rf (hR h a24 3)) Z.1 dX9_reckon_169 fl_X9_289 t25 rfl ?_
    refine J_tr (fun r26 er26 => ?_)
    replace hf := lt_i hf r26 er26
    refine J_iload_n Z.1 3 dX9_reckon_172 rfl rfl ?_
    refine J_aload_n Z.1 0 dX9_reckon_173 rfl rfl ?_
    refine J_get (v := va_rf (hR h this 2)) Z.1 dX9_reckon_174 fl_X9_27 t0 rfl ?_
    refine J_tr (fun r27 er27 => ?_)
    replace hf := lt_i hf r27 er27
    replace hf := nn_i hf
    obtain ⟨a26, rfl, hf⟩ := hf
    replace hf := tg_i hf
    obtain ⟨t28, hf⟩ := hf
    replace hf := nn_i hf
    obtain ⟨a27, rfl, hf⟩ := hf
    replace hf := bd_i hf
    obtain ⟨h29, q30, hf⟩ := hf
    refine J_callV (ci := 6) (as := [.int p3, va_rf (some a27)]) (rest := []) (sy := []) Z.1 dX9_reckon_177 cw_X9_218 (pX8_fetch_ok G (dk - 1) (by omega) q30) rfl rfl t28 (zG Z) rfl (by decide) (zF Z (by omega)) (zO Z (by omega) (by decide)) (zM _) Z.2.1 Z.2.1 rfl rfl ?_
    refine J_goto Z.1 305 dX9_reckon_180 (by decide) ?_
    cases hf
    exact J_vret Z.1 Z.2.2.2.2.2 dX9_reckon_305
  rw [if_neg c23] at hf
  by_cases c31 : x9 = 9
  · rw [if_pos c31] at hf
    refine J_tabIn (off := 99) Z.1 165 dX9_reckon_66 (by rw [c31]; decide) (by rw [c31]; decide) (by rw [c31]; decide) (by decide) ?_
    refine J_aload_n Z.1 0 dX9_reckon_165 rfl rfl ?_
    refine J_get (v := va_rf (hR h this 4)) Z.1 dX9_reckon_166 fl_X9_34 t0 rfl ?_
    refine J_tr (fun r32 er32 => ?_)
    replace hf := lt_i hf r32 er32
    replace hf := nn_i hf
    obtain ⟨a32, rfl, hf⟩ := hf
    replace hf := tg_i hf
    obtain ⟨t33, hf⟩ := hf
    refine J_get (v := va_rf (hR h a32 3)) Z.1 dX9_reckon_169 fl_X9_289 t33 rfl ?_
    refine J_tr (fun r34 er34 => ?_)
    replace hf := lt_i hf r34 er34
    refine J_iload_n Z.1 3 dX9_reckon_172 rfl rfl ?_
    refine J_aload_n Z.1 0 dX9_reckon_173 rfl rfl ?_
    refine J_get (v := va_rf (hR h this 2)) Z.1 dX9_reckon_174 fl_X9_27 t0 rfl ?_
    refine J_tr (fun r35 er35 => ?_)
    replace hf := lt_i hf r35 er35
    replace hf := nn_i hf
    obtain ⟨a34, rfl, hf⟩ := hf
    replace hf := tg_i hf
    obtain ⟨t36, hf⟩ := hf
    replace hf := nn_i hf
    obtain ⟨a35, rfl, hf⟩ := hf
    replace hf := bd_i hf
    obtain ⟨h37, q38, hf⟩ := hf
    refine J_callV (ci := 6) (as := [.int p3, va_rf (some a35)]) (rest := []) (sy := []) Z.1 dX9_reckon_177 cw_X9_218 (pX8_fetch_ok G (dk - 1) (by omega) q38) rfl rfl t36 (zG Z) rfl (by decide) (zF Z (by omega)) (zO Z (by omega) (by decide)) (zM _) Z.2.1 Z.2.1 rfl rfl ?_
    refine J_goto Z.1 305 dX9_reckon_180 (by decide) ?_
    cases hf
    exact J_vret Z.1 Z.2.2.2.2.2 dX9_reckon_305
  rw [if_neg c31] at hf
  by_cases c39 : x9 = 10
  · rw [if_pos c39] at hf
    refine J_tabIn (off := 117) Z.1 183 dX9_reckon_66 (by rw [c39]; decide) (by rw [c39]; decide) (by rw [c39]; decide) (by decide) ?_
    refine J_aload_n Z.1 0 dX9_reckon_183 rfl rfl ?_
    refine J_get (v := va_rf (hR h this 2)) Z.1 dX9_reckon_184 fl_X9_27 t0 rfl ?_
    refine J_tr (fun r40 er40 => ?_)
    replace hf := lt_i hf r40 er40
    refine J_aload_n Z.1 0 dX9_reckon_187 rfl rfl ?_
    refine J_get (v := va_rf (hR h this 3)) Z.1 dX9_reckon_188 fl_X9_31 t0 rfl ?_
    refine J_tr (fun r41 er41 => ?_)
    replace hf := lt_i hf r41 er41
    replace hf := nn_i hf
    obtain ⟨a40, rfl, hf⟩ := hf
    replace hf := tg_i hf
    obtain ⟨t42, hf⟩ := hf
    replace hf := nn_i hf
    obtain ⟨a41, rfl, hf⟩ := hf
    replace hf := bd_i hf
    obtain ⟨h43, q44, hf⟩ := hf
    refine J_callV (ci := 3) (as := [va_rf (some a41)]) (rest := []) (sy := []) Z.1 dX9_reckon_191 cw_X9_225 (pX4_plus_ok G (dk - 1) (by omega) q44) rfl rfl t42 (zG Z) rfl (by decide) (zF Z (by omega)) (zO Z (by omega) (by decide)) (zM _) Z.2.1 Z.2.1 rfl rfl ?_
    refine J_goto Z.1 305 dX9_reckon_194 (by decide) ?_
    cases hf
    exact J_vret Z.1 Z.2.2.2.2.2 dX9_reckon_305
  rw [if_neg c39] at hf
  by_cases c45 : x9 = 11
  · rw [if_pos c45] at hf
    refine J_tabIn (off := 131) Z.1 197 dX9_reckon_66 (by rw [c45]; decide) (by rw [c45]; decide) (by rw [c45]; decide) (by decide) ?_
    refine J_aload_n Z.1 0 dX9_reckon_197 rfl rfl ?_
    refine J_get (v := va_rf (hR h this 2)) Z.1 dX9_reckon_198 fl_X9_27 t0 rfl ?_
    refine J_tr (fun r46 er46 => ?_)
    replace hf := lt_i hf r46 er46
    refine J_aload_n Z.1 0 dX9_reckon_201 rfl rfl ?_
    refine J_get (v := va_rf (hR h this 3)) Z.1 dX9_reckon_202 fl_X9_31 t0 rfl ?_
    refine J_tr (fun r47 er47 => ?_)
    replace hf := lt_i hf r47 er47
    replace hf := nn_i hf
    obtain ⟨a46, rfl, hf⟩ := hf
    replace hf := tg_i hf
    obtain ⟨t48, hf⟩ := hf
    replace hf := nn_i hf
    obtain ⟨a47, rfl, hf⟩ := hf
    replace hf := bd_i hf
    obtain ⟨h49, q50, hf⟩ := hf
    refine J_callV (ci := 3) (as := [va_rf (some a47)]) (rest := []) (sy := []) Z.1 dX9_reckon_205 cw_X9_334 (pX4_minus_ok G (dk - 1) (by omega) q50) rfl rfl t48 (zG Z) rfl (by decide) (zF Z (by omega)) (zO Z (by omega) (by decide)) (zM _) Z.2.1 Z.2.1 rfl rfl ?_
    refine J_goto Z.1 305 dX9_reckon_208 (by decide) ?_
    cases hf
    exact J_vret Z.1 Z.2.2.2.2.2 dX9_reckon_305
  rw [if_neg c45] at hf
  by_cases c51 : x9 = 12
  · rw [if_pos c51] at hf
    refine J_tabIn (off := 145) Z.1 211 dX9_reckon_66 (by rw [c51]; decide) (by rw [c51]; decide) (by rw [c51]; decide) (by decide) ?_
    refine J_aload_n Z.1 0 dX9_reckon_211 rfl rfl ?_
    refine J_get (v := va_rf (hR h this 2)) Z.1 dX9_reckon_212 fl_X9_27 t0 rfl ?_
    refine J_tr (fun r52 er52 => ?_)
    replace hf := lt_i hf r52 er52
    refine J_aload_n Z.1 0 dX9_reckon_215 rfl rfl ?_
    refine J_get (v := va_rf (hR h this 3)) Z.1 dX9_reckon_216 fl_X9_31 t0 rfl ?_
    refine J_tr (fun r53 er53 => ?_)
    replace hf := lt_i hf r53 er53
    replace hf := nn_i hf
    obtain ⟨a52, rfl, hf⟩ := hf
    replace hf := tg_i hf
    obtain ⟨t54, hf⟩ := hf
    replace hf := nn_i hf
    obtain ⟨a53, rfl, hf⟩ := hf
    replace hf := bd_i hf
    obtain ⟨h55, q56, hf⟩ := hf
    refine J_callV (ci := 3) (as := [va_rf (some a53)]) (rest := []) (sy := []) Z.1 dX9_reckon_219 cw_X9_337 (pX4_times_ok G (dk - 1) (by omega) q56) rfl rfl t54 (zG Z) rfl (by decide) (zF Z (by omega)) (zO Z (by omega) (by decide)) (zM _) Z.2.1 Z.2.1 rfl rfl ?_
    refine J_goto Z.1 305 dX9_reckon_222 (by decide) ?_
    cases hf
    exact J_vret Z.1 Z.2.2.2.2.2 dX9_reckon_305
  rw [if_neg c51] at hf
  by_cases c57 : x9 = 13
  · rw [if_pos c57] at hf
    refine J_tabIn (off := 159) Z.1 225 dX9_reckon_66 (by rw [c57]; decide) (by rw [c57]; decide) (by rw [c57]; decide) (by decide) ?_
    refine J_aload_n Z.1 0 dX9_reckon_225 rfl rfl ?_
    refine J_get (v := va_rf (hR h this 2)) Z.1 dX9_reckon_226 fl_X9_27 t0 rfl ?_
    refine J_tr (fun r58 er58 => ?_)
    replace hf := lt_i hf r58 er58
    refine J_aload_n Z.1 0 dX9_reckon_229 rfl rfl ?_
    refine J_get (v := va_rf (hR h this 3)) Z.1 dX9_reckon_230 fl_X9_31 t0 rfl ?_
    refine J_tr (fun r59 er59 => ?_)
    replace hf := lt_i hf r59 er59
    replace hf := nn_i hf
    obtain ⟨a58, rfl, hf⟩ := hf
    replace hf := tg_i hf
    obtain ⟨t60, hf⟩ := hf
    replace hf := nn_i hf
    obtain ⟨a59, rfl, hf⟩ := hf
    replace hf := bd_i hf
    obtain ⟨h61, q62, hf⟩ := hf
    refine J_callV (ci := 3) (as := [va_rf (some a59)]) (rest := []) (sy := []) Z.1 dX9_reckon_233 cw_X9_339 (pX4_over_ok G (dk - 1) (by omega) q62) rfl rfl t60 (zG Z) rfl (by decide) (zF Z (by omega)) (zO Z (by omega) (by decide)) (zM _) Z.2.1 Z.2.1 rfl rfl ?_
    refine J_goto Z.1 305 dX9_reckon_236 (by decide) ?_
    cases hf
    exact J_vret Z.1 Z.2.2.2.2.2 dX9_reckon_305
  rw [if_neg c57] at hf
  by_cases c63 : x9 = 14
  · rw [if_pos c63] at hf
    refine J_tabIn (off := 173) Z.1 239 dX9_reckon_66 (by rw [c63]; decide) (by rw [c63]; decide) (by rw [c63]; decide) (by decide) ?_
    refine J_aload_n Z.1 0 dX9_reckon_239 rfl rfl ?_
    refine J_get (v := va_rf (hR h this 0)) Z.1 dX9_reckon_240 fl_X9_9 t0 rfl ?_
    refine J_tr (fun r64 er64 => ?_)
    replace hf := lt_i hf r64 er64
    refine J_aload_n Z.1 0 dX9_reckon_243 rfl rfl ?_
    refine J_get (v := va_rf (hR h this 2)) Z.1 dX9_reckon_244 fl_X9_27 t0 rfl ?_
    refine J_tr (fun r65 er65 => ?_)
    replace hf := lt_i hf r65 er65
    refine J_aload_n Z.1 0 dX9_reckon_247 rfl rfl ?_
    refine J_get (v := va_rf (hR h this 3)) Z.1 dX9_reckon_248 fl_X9_31 t0 rfl ?_
    refine J_tr (fun r66 er66 => ?_)
    replace hf := lt_i hf r66 er66
    replace hf := nn_i hf
    obtain ⟨a64, rfl, hf⟩ := hf
    replace hf := tg_i hf
    obtain ⟨t67, hf⟩ := hf
    replace hf := nn_i hf
    obtain ⟨a65, rfl, hf⟩ := hf
    replace hf := nn_i hf
    obtain ⟨a66, rfl, hf⟩ := hf
    replace hf := bd_i hf
    obtain ⟨h68, q69, hf⟩ := hf
    refine J_callV (ci := 0) (as := [va_rf (some a65), va_rf (some a66)]) (rest := []) (sy := []) Z.1 dX9_reckon_251 cw_X9_342 (pX1_remainder_ok G (dk - 1) (by omega) q69) rfl rfl t67 (zG Z) rfl (by decide) (zF Z (by omega)) (zO Z (by omega) (by decide)) (zM _) Z.2.1 Z.2.1 rfl rfl ?_
    refine J_goto Z.1 305 dX9_reckon_254 (by decide) ?_
    cases hf
    exact J_vret Z.1 Z.2.2.2.2.2 dX9_reckon_305
  rw [if_neg c63] at hf
  by_cases c70 : x9 = 15
  · rw [if_pos c70] at hf
    refine J_tabIn (off := 191) Z.1 257 dX9_reckon_66 (by rw [c70]; decide) (by rw [c70]; decide) (by rw [c70]; decide) (by decide) ?_
    refine J_aload_n Z.1 0 dX9_reckon_257 rfl rfl ?_
    refine J_get (v := va_rf (hR h this 2)) Z.1 dX9_reckon_258 fl_X9_27 t0 rfl ?_
    refine J_tr (fun r71 er71 => ?_)
    replace hf := lt_i hf r71 er71
    refine J_aload_n Z.1 0 dX9_reckon_261 rfl rfl ?_
    refine J_get (v := va_rf (hR h this 3)) Z.1 dX9_reckon_262 fl_X9_31 t0 rfl ?_
    refine J_tr (fun r72 er72 => ?_)
    replace hf := lt_i hf r72 er72
    replace hf := nn_i hf
    obtain ⟨a71, rfl, hf⟩ := hf
    replace hf := tg_i hf
    obtain ⟨t73, hf⟩ := hf
    replace hf := nn_i hf
    obtain ⟨a72, rfl, hf⟩ := hf
    replace hf := bd_i hf
    obtain ⟨h74, q75, hf⟩ := hf
    refine J_callV (ci := 3) (as := [va_rf (some a72)]) (rest := []) (sy := []) Z.1 dX9_reckon_265 cw_X9_348 (pX4_least_ok G (dk - 1) (by omega) q75) rfl rfl t73 (zG Z) rfl (by decide) (zF Z (by omega)) (zO Z (by omega) (by decide)) (zM _) Z.2.1 Z.2.1 rfl rfl ?_
    refine J_goto Z.1 305 dX9_reckon_268 (by decide) ?_
    cases hf
    exact J_vret Z.1 Z.2.2.2.2.2 dX9_reckon_305
  rw [if_neg c70] at hf
  by_cases c76 : x9 = 16
  · rw [if_pos c76] at hf
    refine J_tabIn (off := 205) Z.1 271 dX9_reckon_66 (by rw [c76]; decide) (by rw [c76]; decide) (by rw [c76]; decide) (by decide) ?_
    refine J_aload_n Z.1 0 dX9_reckon_271 rfl rfl ?_
    refine J_get (v := va_rf (hR h this 2)) Z.1 dX9_reckon_272 fl_X9_27 t0 rfl ?_
    refine J_tr (fun r77 er77 => ?_)
    replace hf := lt_i hf r77 er77
    refine J_aload_n Z.1 0 dX9_reckon_275 rfl rfl ?_
    refine J_get (v := va_rf (hR h this 3)) Z.1 dX9_reckon_276 fl_X9_31 t0 rfl ?_
    refine J_tr (fun r78 er78 => ?_)
    replace hf := lt_i hf r78 er78
    replace hf := nn_i hf
    obtain ⟨a77, rfl, hf⟩ := hf
    replace hf := tg_i hf
    obtain ⟨t79, hf⟩ := hf
    replace hf := nn_i hf
    obtain ⟨a78, rfl, hf⟩ := hf
    replace hf := bd_i hf
    obtain ⟨h80, q81, hf⟩ := hf
    refine J_callV (ci := 3) (as := [va_rf (some a78)]) (rest := []) (sy := []) Z.1 dX9_reckon_279 cw_X9_221 (pX4_most_ok G (dk - 1) (by omega) q81) rfl rfl t79 (zG Z) rfl (by decide) (zF Z (by omega)) (zO Z (by omega) (by decide)) (zM _) Z.2.1 Z.2.1 rfl rfl ?_
    refine J_goto Z.1 305 dX9_reckon_282 (by decide) ?_
    cases hf
    exact J_vret Z.1 Z.2.2.2.2.2 dX9_reckon_305
  rw [if_neg c76] at hf
  by_cases c82 : x9 = 17
  · rw [if_pos c82] at hf
    refine J_tabIn (off := 219) Z.1 285 dX9_reckon_66 (by rw [c82]; decide) (by rw [c82]; decide) (by rw [c82]; decide) (by decide) ?_
    refine J_aload_n Z.1 0 dX9_reckon_285 rfl rfl ?_
    refine J_get (v := va_rf (hR h this 2)) Z.1 dX9_reckon_286 fl_X9_27 t0 rfl ?_
    refine J_tr (fun r83 er83 => ?_)
    replace hf := lt_i hf r83 er83
    replace hf := nn_i hf
    obtain ⟨a83, rfl, hf⟩ := hf
    replace hf := tg_i hf
    obtain ⟨t84, hf⟩ := hf
    replace hf := bd_i hf
    obtain ⟨h85, q86, hf⟩ := hf
    refine J_callV (ci := 3) (as := []) (rest := []) (sy := []) Z.1 dX9_reckon_289 cw_X9_351 (pX4_toSingle_ok G (dk - 1) (by omega) q86) rfl rfl t84 (zG Z) rfl (by decide) (zF Z (by omega)) (zO Z (by omega) (by decide)) (zM _) Z.2.1 Z.2.1 rfl rfl ?_
    refine J_goto Z.1 305 dX9_reckon_292 (by decide) ?_
    cases hf
    exact J_vret Z.1 Z.2.2.2.2.2 dX9_reckon_305
  rw [if_neg c82] at hf
  by_cases c87 : x9 = 18
  · rw [if_pos c87] at hf
    refine J_tabIn (off := 229) Z.1 295 dX9_reckon_66 (by rw [c87]; decide) (by rw [c87]; decide) (by rw [c87]; decide) (by decide) ?_
    refine J_aload_n Z.1 0 dX9_reckon_295 rfl rfl ?_
    refine J_get (v := va_rf (hR h this 2)) Z.1 dX9_reckon_296 fl_X9_27 t0 rfl ?_
    refine J_tr (fun r88 er88 => ?_)
    replace hf := lt_i hf r88 er88
    replace hf := nn_i hf
    obtain ⟨a88, rfl, hf⟩ := hf
    replace hf := tg_i hf
    obtain ⟨t89, hf⟩ := hf
    replace hf := bd_i hf
    obtain ⟨h90, q91, hf⟩ := hf
    refine J_callV (ci := 3) (as := []) (rest := []) (sy := []) Z.1 dX9_reckon_299 cw_X9_354 (pX4_toWhole_ok G (dk - 1) (by omega) q91) rfl rfl t89 (zG Z) rfl (by decide) (zF Z (by omega)) (zO Z (by omega) (by decide)) (zM _) Z.2.1 Z.2.1 rfl rfl ?_
    refine J_goto Z.1 305 dX9_reckon_302 (by decide) ?_
    cases hf
    exact J_vret Z.1 Z.2.2.2.2.2 dX9_reckon_305
  rw [if_neg c87] at hf
  have hout : x9.toInt < 6 ∨ 18 < x9.toInt := by
    have c10q := lv_neT c10 (a := 6) (by decide)
    have c15q := lv_neT c15 (a := 7) (by decide)
    have c23q := lv_neT c23 (a := 8) (by decide)
    have c31q := lv_neT c31 (a := 9) (by decide)
    have c39q := lv_neT c39 (a := 10) (by decide)
    have c45q := lv_neT c45 (a := 11) (by decide)
    have c51q := lv_neT c51 (a := 12) (by decide)
    have c57q := lv_neT c57 (a := 13) (by decide)
    have c63q := lv_neT c63 (a := 14) (by decide)
    have c70q := lv_neT c70 (a := 15) (by decide)
    have c76q := lv_neT c76 (a := 16) (by decide)
    have c82q := lv_neT c82 (a := 17) (by decide)
    have c87q := lv_neT c87 (a := 18) (by decide)
    omega
  refine J_tabOut Z.1 305 dX9_reckon_66 hout (by decide) ?_
  cases hf
  exact J_vret Z.1 Z.2.2.2.2.2 dX9_reckon_305
def pX9_reckon_b27 (E : EC) (g : MT) (this : Nat) (p1 : Nat) (p2 : Int32) (p3 : Int32) (h : CT) : Option CT := tg g p1 2 (lt (hR h p1 0) fun r2 => (nn r2 fun a2 => (tg E.2.2 a2 60 (bd (pX5_does E g h a2 8) fun x4 => (if x4 = 0 then pX9_reckon_b55 E g this p1 p2 p3  h else lt (hR h this 4) fun r7 => (lt (hR h this 3) fun r8 => (nn r7 fun a7 => (tg g a7 3 (nn r8 fun a8 => (bd (pX3_fetch g h a7 (hI h p1 3) p2 a8) fun h10 => (pX9_reckon_b55 E g this p1 p2 p3  h10)))))))))))
set_option maxRecDepth 10000 in
set_option maxHeartbeats 4000000 in
theorem pX9_reckon_b27_ok {X : Cx} {G : Gx} {dk : Nat} {g : MT} {h0 : CT} {this : Nat} {p1 : Nat} {p2 : Int32} {p3 : Int32} (Z : Zx X G cX9_reckon RX9 4 dk none none g h0) (hK : 2 ≤ dk) {E : EC} (hE : G.2.2.2 = E) (t0 : gT g this = 8) (h : CT) (hf : pX9_reckon_b27 E g this p1 p2 p3 h = some h0) : J X g h 27 [(0, va_rf (some this)), (1, va_rf (some p1)), (2, .int p2), (3, .int p3)] [] := by
  unfold pX9_reckon_b27 at hf
  refine J_aload_n Z.1 1 dX9_reckon_27 rfl rfl ?_
  replace hf := tg_i hf
  obtain ⟨t1, hf⟩ := hf
  refine J_get (v := va_rf (hR h p1 0)) Z.1 dX9_reckon_28 fl_X9_84 t1 rfl ?_
  refine J_tr (fun r2 er2 => ?_)
  replace hf := lt_i hf r2 er2
  refine J_bipush Z.1 (v := 8) (by decide) dX9_reckon_31 ?_
  replace hf := nn_i hf
  obtain ⟨a2, rfl, hf⟩ := hf
  replace hf := tg_i hf
  obtain ⟨t3, hf⟩ := hf
  rw [← zE Z hE] at t3
  replace hf := bd_i hf
  obtain ⟨x4, q5, hf⟩ := hf
  refine J_callK (as := [.int 8]) (rest := []) (sy := [.int x4]) Z.1 dX9_reckon_33 cw_X9_238 (pX5_does_ok G (dk - 1) (by omega) hE q5) (kO Z.1 t3) (zG Z) rfl (by decide) (zF Z (by omega)) (zO Z (by omega) (by decide)) (zM _) Z.2.1 Z.2.1 rfl rfl ?_
  refine J_if_eq Z.1 55 dX9_reckon_36 (by decide) (fun c6 => ?_) (fun c6 => ?_)
  · rw [if_pos c6] at hf
    exact pX9_reckon_b55_ok Z hK hE t0  _ hf
  · rw [if_neg c6] at hf
    refine J_aload_n Z.1 0 dX9_reckon_39 rfl rfl ?_
    refine J_get (v := va_rf (hR h this 4)) Z.1 dX9_reckon_40 fl_X9_34 t0 rfl ?_
    refine J_tr (fun r7 er7 => ?_)
    replace hf := lt_i hf r7 er7
    refine J_aload_n Z.1 1 dX9_reckon_43 rfl rfl ?_
    refine J_get (v := .int (hI h p1 3)) Z.1 dX9_reckon_44 fl_X9_270 t1 rfl ?_
    refine J_iload_n Z.1 2 dX9_reckon_47 rfl rfl ?_
    refine J_aload_n Z.1 0 dX9_reckon_48 rfl rfl ?_
    refine J_get (v := va_rf (hR h this 3)) Z.1 dX9_reckon_49 fl_X9_31 t0 rfl ?_
    refine J_tr (fun r8 er8 => ?_)
    replace hf := lt_i hf r8 er8
    replace hf := nn_i hf
    obtain ⟨a7, rfl, hf⟩ := hf
    replace hf := tg_i hf
    obtain ⟨t9, hf⟩ := hf
    replace hf := nn_i hf
    obtain ⟨a8, rfl, hf⟩ := hf
    replace hf := bd_i hf
    obtain ⟨h10, q11, hf⟩ := hf
    refine J_callV (ci := 2) (as := [.int (hI h p1 3), .int p2, va_rf (some a8)]) (rest := []) (sy := []) Z.1 dX9_reckon_52 cw_X9_273 (pX3_fetch_ok G (dk - 1) (by omega) q11) rfl rfl t9 (zG Z) rfl (by decide) (zF Z (by omega)) (zO Z (by omega) (by decide)) (zM _) Z.2.1 Z.2.1 rfl rfl ?_
    exact pX9_reckon_b55_ok Z hK hE t0  _ hf
def pX9_reckon (E : EC) (g : MT) (h : CT) (this : Nat) (p1 : Nat) (p2 : Int32) (p3 : Int32) : Option CT := tg g this 8 (tg g p1 2 (lt (hR h p1 0) fun r2 => (nn r2 fun a2 => (tg E.2.2 a2 60 (bd (pX5_does E g h a2 4) fun x4 => (if x4 = 0 then pX9_reckon_b27 E g this p1 p2 p3  h else lt (hR h this 4) fun r7 => (lt (hR h this 2) fun r8 => (nn r7 fun a7 => (tg g a7 3 (nn r8 fun a8 => (bd (pX3_fetch g h a7 (hI h p1 2) p2 a8) fun h10 => (pX9_reckon_b27 E g this p1 p2 p3  h10))))))))))))
set_option maxRecDepth 10000 in
set_option maxHeartbeats 4000000 in
theorem pX9_reckon_ok (G : Gx) (dk : Nat) (hK : 2 ≤ dk) {g : MT} {E : EC} (hE : G.2.2.2 = E) {h h0 : CT} {this : Nat} {p1 : Nat} {p2 : Int32} {p3 : Int32} (hf : pX9_reckon E g h this p1 p2 p3 = some h0) : Ctr G dk yX9_reckon cX9_reckon 4 none [va_rf (some this), va_rf (some p1), .int p2, .int p3] g h none g h0 := by
  refine Ctr.ofZ (lv := [(0, va_rf (some this)), (1, va_rf (some p1)), (2, .int p2), (3, .int p3)]) (by decide +kernel) (by simp [cat_i, cat_l, cat_d, cat_rf]) rfl fun X Z => ?_
  unfold pX9_reckon at hf
  replace hf := tg_i hf
  obtain ⟨t0, hf⟩ := hf
  refine J_aload_n Z.1 1 dX9_reckon_0 rfl rfl ?_
  replace hf := tg_i hf
  obtain ⟨t1, hf⟩ := hf
  refine J_get (v := va_rf (hR h p1 0)) Z.1 dX9_reckon_1 fl_X9_84 t1 rfl ?_
  refine J_tr (fun r2 er2 => ?_)
  replace hf := lt_i hf r2 er2
  refine J_iconst Z.1 (v := 4) (by decide) dX9_reckon_4 ?_
  replace hf := nn_i hf
  obtain ⟨a2, rfl, hf⟩ := hf
  replace hf := tg_i hf
  obtain ⟨t3, hf⟩ := hf
  rw [← zE Z hE] at t3
  replace hf := bd_i hf
  obtain ⟨x4, q5, hf⟩ := hf
  refine J_callK (as := [.int 4]) (rest := []) (sy := [.int x4]) Z.1 dX9_reckon_5 cw_X9_238 (pX5_does_ok G (dk - 1) (by omega) hE q5) (kO Z.1 t3) (zG Z) rfl (by decide) (zF Z (by omega)) (zO Z (by omega) (by decide)) (zM _) Z.2.1 Z.2.1 rfl rfl ?_
  refine J_if_eq Z.1 27 dX9_reckon_8 (by decide) (fun c6 => ?_) (fun c6 => ?_)
  · rw [if_pos c6] at hf
    exact pX9_reckon_b27_ok Z hK hE t0  _ hf
  · rw [if_neg c6] at hf
    refine J_aload_n Z.1 0 dX9_reckon_11 rfl rfl ?_
    refine J_get (v := va_rf (hR h this 4)) Z.1 dX9_reckon_12 fl_X9_34 t0 rfl ?_
    refine J_tr (fun r7 er7 => ?_)
    replace hf := lt_i hf r7 er7
    refine J_aload_n Z.1 1 dX9_reckon_15 rfl rfl ?_
    refine J_get (v := .int (hI h p1 2)) Z.1 dX9_reckon_16 fl_X9_267 t1 rfl ?_
    refine J_iload_n Z.1 2 dX9_reckon_19 rfl rfl ?_
    refine J_aload_n Z.1 0 dX9_reckon_20 rfl rfl ?_
    refine J_get (v := va_rf (hR h this 2)) Z.1 dX9_reckon_21 fl_X9_27 t0 rfl ?_
    refine J_tr (fun r8 er8 => ?_)
    replace hf := lt_i hf r8 er8
    replace hf := nn_i hf
    obtain ⟨a7, rfl, hf⟩ := hf
    replace hf := tg_i hf
    obtain ⟨t9, hf⟩ := hf
    replace hf := nn_i hf
    obtain ⟨a8, rfl, hf⟩ := hf
    replace hf := bd_i hf
    obtain ⟨h10, q11, hf⟩ := hf
    refine J_callV (ci := 2) (as := [.int (hI h p1 2), .int p2, va_rf (some a8)]) (rest := []) (sy := []) Z.1 dX9_reckon_24 cw_X9_273 (pX3_fetch_ok G (dk - 1) (by omega) q11) rfl rfl t9 (zG Z) rfl (by decide) (zF Z (by omega)) (zO Z (by omega) (by decide)) (zM _) Z.2.1 Z.2.1 rfl rfl ?_
    exact pX9_reckon_b27_ok Z hK hE t0  _ hf
