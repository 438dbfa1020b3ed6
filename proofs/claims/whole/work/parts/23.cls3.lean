/-! written by wip/whole/gen.py out of the printed bytecode -/
theorem dX2_changes_0 : decode cX2_changes 0 = .ok (.aload_n 0, 1) := by decide +kernel
theorem dX2_changes_1 : decode cX2_changes 1 = .ok (.getfield 11, 3) := by decide +kernel
theorem dX2_changes_4 : decode cX2_changes 4 = .ok (.getstatic 25, 3) := by decide +kernel
theorem dX2_changes_7 : decode cX2_changes 7 = .ok (.if_acmp .ne 9, 3) := by decide +kernel
theorem dX2_changes_10 : decode cX2_changes 10 = .ok (.sipush 4096, 3) := by decide +kernel
theorem dX2_changes_13 : decode cX2_changes 13 = .ok (.goto 4, 3) := by decide +kernel
theorem dX2_changes_16 : decode cX2_changes 16 = .ok (.iconst 0, 1) := by decide +kernel
theorem dX2_changes_17 : decode cX2_changes 17 = .ok (.aload_n 0, 1) := by decide +kernel
theorem dX2_changes_18 : decode cX2_changes 18 = .ok (.iconst 2, 1) := by decide +kernel
theorem dX2_changes_19 : decode cX2_changes 19 = .ok (.iconst 1, 1) := by decide +kernel
theorem dX2_changes_20 : decode cX2_changes 20 = .ok (.aload_n 0, 1) := by decide +kernel
theorem dX2_changes_21 : decode cX2_changes 21 = .ok (.getfield 28, 3) := by decide +kernel
theorem dX2_changes_24 : decode cX2_changes 24 = .ok (.ishl, 1) := by decide +kernel
theorem dX2_changes_25 : decode cX2_changes 25 = .ok (.invokevirtual 32, 3) := by decide +kernel
theorem dX2_changes_28 : decode cX2_changes 28 = .ok (.ior, 1) := by decide +kernel
theorem dX2_changes_29 : decode cX2_changes 29 = .ok (.aload_n 0, 1) := by decide +kernel
theorem dX2_changes_30 : decode cX2_changes 30 = .ok (.sipush 512, 3) := by decide +kernel
theorem dX2_changes_33 : decode cX2_changes 33 = .ok (.iconst 1, 1) := by decide +kernel
theorem dX2_changes_34 : decode cX2_changes 34 = .ok (.bipush 6, 2) := by decide +kernel
theorem dX2_changes_36 : decode cX2_changes 36 = .ok (.aload_n 0, 1) := by decide +kernel
theorem dX2_changes_37 : decode cX2_changes 37 = .ok (.getfield 42, 3) := by decide +kernel
theorem dX2_changes_40 : decode cX2_changes 40 = .ok (.iadd, 1) := by decide +kernel
theorem dX2_changes_41 : decode cX2_changes 41 = .ok (.ishl, 1) := by decide +kernel
theorem dX2_changes_42 : decode cX2_changes 42 = .ok (.invokevirtual 32, 3) := by decide +kernel
theorem dX2_changes_45 : decode cX2_changes 45 = .ok (.ior, 1) := by decide +kernel
theorem dX2_changes_46 : decode cX2_changes 46 = .ok (.aload_n 0, 1) := by decide +kernel
theorem dX2_changes_47 : decode cX2_changes 47 = .ok (.bipush 32, 2) := by decide +kernel
theorem dX2_changes_49 : decode cX2_changes 49 = .ok (.sipush 1024, 3) := by decide +kernel
theorem dX2_changes_52 : decode cX2_changes 52 = .ok (.invokevirtual 32, 3) := by decide +kernel
theorem dX2_changes_55 : decode cX2_changes 55 = .ok (.ior, 1) := by decide +kernel
theorem dX2_changes_56 : decode cX2_changes 56 = .ok (.aload_n 0, 1) := by decide +kernel
theorem dX2_changes_57 : decode cX2_changes 57 = .ok (.sipush 128, 3) := by decide +kernel
theorem dX2_changes_60 : decode cX2_changes 60 = .ok (.sipush 2048, 3) := by decide +kernel
theorem dX2_changes_63 : decode cX2_changes 63 = .ok (.invokevirtual 32, 3) := by decide +kernel
theorem dX2_changes_66 : decode cX2_changes 66 = .ok (.ior, 1) := by decide +kernel
theorem dX2_changes_67 : decode cX2_changes 67 = .ok (.ireturn, 1) := by decide +kernel
def pX2_changes_b17 (E : EC) (g : MT) (h : CT) (this : Nat) (s0 : Int32) : Option Int32 := bd (pX2_bit E g h this 2 ((1 : Int32) <<< ((hI h this 1) &&& 31))) fun x1 => (bd (pX2_bit E g h this 512 ((1 : Int32) <<< ((6 + (hI h this 4)) &&& 31))) fun x3 => (bd (pX2_bit E g h this 32 1024) fun x5 => (bd (pX2_bit E g h this 128 2048) fun x7 => (some ((((s0 ||| x1) ||| x3) ||| x5) ||| x7)))))
set_option maxRecDepth 10000 in
set_option maxHeartbeats 4000000 in
theorem pX2_changes_b17_ok {X : Cx} {G : Gx} {dk : Nat} {g : MT} {r0 : Int32} {h : CT} {this : Nat} (Z : Zx X G cX2_changes RX2 1 dk (some .int) (some (.int r0)) g h) (hK : 2 ≤ dk) {E : EC} (hE : G.2.2.2 = E) (t0 : gT g this = 2) (s0 : Int32) (hf : pX2_changes_b17 E g h this s0 = some r0) : J X g h 17 [(0, va_rf (some this))] [.int s0] := by
  unfold pX2_changes_b17 at hf
  refine J_aload_n Z.1 0 dX2_changes_17 rfl rfl ?_
  refine J_iconst Z.1 (v := 2) (by decide) dX2_changes_18 ?_
  refine J_iconst Z.1 (v := 1) (by decide) dX2_changes_19 ?_
  refine J_aload_n Z.1 0 dX2_changes_20 rfl rfl ?_
  refine J_get (v := .int (hI h this 1)) Z.1 dX2_changes_21 fl_X2_28 t0 rfl ?_
  refine J_ishl Z.1 dX2_changes_24 ?_
  replace hf := bd_i hf
  obtain ⟨x1, q2, hf⟩ := hf
  refine J_callV (ci := 1) (as := [.int 2, .int ((1 : Int32) <<< ((hI h this 1) &&& 31))]) (rest := [.int s0]) (sy := [.int x1, .int s0]) Z.1 dX2_changes_25 cw_X2_32 (pX2_bit_ok G (dk - 1) (by omega) hE q2) rfl rfl t0 (zG Z) rfl (by simp [cat_i, cat_l, cat_d, cat_rf]) (zF Z (by omega)) (zO Z (by omega) (by decide)) (zM _) Z.2.1 Z.2.1 rfl rfl ?_
  refine J_ior Z.1 dX2_changes_28 ?_
  refine J_aload_n Z.1 0 dX2_changes_29 rfl rfl ?_
  refine J_sipush Z.1 (v := 512) (by decide) dX2_changes_30 ?_
  refine J_iconst Z.1 (v := 1) (by decide) dX2_changes_33 ?_
  refine J_bipush Z.1 (v := 6) (by decide) dX2_changes_34 ?_
  refine J_aload_n Z.1 0 dX2_changes_36 rfl rfl ?_
  refine J_get (v := .int (hI h this 4)) Z.1 dX2_changes_37 fl_X2_42 t0 rfl ?_
  refine J_iadd Z.1 dX2_changes_40 ?_
  refine J_ishl Z.1 dX2_changes_41 ?_
  replace hf := bd_i hf
  obtain ⟨x3, q4, hf⟩ := hf
  refine J_callV (ci := 1) (as := [.int 512, .int ((1 : Int32) <<< ((6 + (hI h this 4)) &&& 31))]) (rest := [.int (s0 ||| x1)]) (sy := [.int x3, .int (s0 ||| x1)]) Z.1 dX2_changes_42 cw_X2_32 (pX2_bit_ok G (dk - 1) (by omega) hE q4) rfl rfl t0 (zG Z) rfl (by simp [cat_i, cat_l, cat_d, cat_rf]) (zF Z (by omega)) (zO Z (by omega) (by decide)) (zM _) Z.2.1 Z.2.1 rfl rfl ?_
  refine J_ior Z.1 dX2_changes_45 ?_
  refine J_aload_n Z.1 0 dX2_changes_46 rfl rfl ?_
  refine J_bipush Z.1 (v := 32) (by decide) dX2_changes_47 ?_
  refine J_sipush Z.1 (v := 1024) (by decide) dX2_changes_49 ?_
  replace hf := bd_i hf
  obtain ⟨x5, q6, hf⟩ := hf
  refine J_callV (ci := 1) (as := [.int 32, .int 1024]) (rest := [.int ((s0 ||| x1) ||| x3)]) (sy := [.int x5, .int ((s0 ||| x1) ||| x3)]) Z.1 dX2_changes_52 cw_X2_32 (pX2_bit_ok G (dk - 1) (by omega) hE q6) rfl rfl t0 (zG Z) rfl (by simp [cat_i, cat_l, cat_d, cat_rf]) (zF Z (by omega)) (zO Z (by omega) (by decide)) (zM _) Z.2.1 Z.2.1 rfl rfl ?_
  refine J_ior Z.1 dX2_changes_55 ?_
  refine J_aload_n Z.1 0 dX2_changes_56 rfl rfl ?_
  refine J_sipush Z.1 (v := 128) (by decide) dX2_changes_57 ?_
  refine J_sipush Z.1 (v := 2048) (by decide) dX2_changes_60 ?_
  replace hf := bd_i hf
  obtain ⟨x7, q8, hf⟩ := hf
  refine J_callV (ci := 1) (as := [.int 128, .int 2048]) (rest := [.int (((s0 ||| x1) ||| x3) ||| x5)]) (sy := [.int x7, .int (((s0 ||| x1) ||| x3) ||| x5)]) Z.1 dX2_changes_63 cw_X2_32 (pX2_bit_ok G (dk - 1) (by omega) hE q8) rfl rfl t0 (zG Z) rfl (by simp [cat_i, cat_l, cat_d, cat_rf]) (zF Z (by omega)) (zO Z (by omega) (by decide)) (zM _) Z.2.1 Z.2.1 rfl rfl ?_
  refine J_ior Z.1 dX2_changes_66 ?_
  cases hf
  exact J_iret Z.1 Z.2.2.2.2.2 dX2_changes_67
def pX2_changes (E : EC) (g : MT) (h : CT) (this : Nat) : Option Int32 := tg g this 2 (lt (hR h this 0) fun r1 => (kR (E.1 5) fun a2 => (if r1 = (some a2) then pX2_changes_b17 E g h this  4096 else pX2_changes_b17 E g h this  0)))
set_option maxRecDepth 10000 in
set_option maxHeartbeats 4000000 in
theorem pX2_changes_ok (G : Gx) (dk : Nat) (hK : 2 ≤ dk) {g : MT} {E : EC} (hE : G.2.2.2 = E) {h : CT} {this : Nat} {r0 : Int32} (hf : pX2_changes E g h this = some r0) : Ctr G dk yX2_changes cX2_changes 1 (some .int) [va_rf (some this)] g h (some (.int r0)) g h := by
  refine Ctr.ofZ (lv := [(0, va_rf (some this))]) (by decide +kernel) (by simp [cat_i, cat_l, cat_d, cat_rf]) rfl fun X Z => ?_
  unfold pX2_changes at hf
  replace hf := tg_i hf
  obtain ⟨t0, hf⟩ := hf
  refine J_aload_n Z.1 0 dX2_changes_0 rfl rfl ?_
  refine J_get (v := va_rf (hR h this 0)) Z.1 dX2_changes_1 fl_X2_11 t0 rfl ?_
  refine J_tr (fun r1 er1 => ?_)
  replace hf := lt_i hf r1 er1
  replace hf := kR_i hf
  obtain ⟨a2, ea2, hf⟩ := hf
  refine J_gets (i := 5) (v := va_rf (some a2)) Z.1 dX2_changes_4 rfl q_1345 (zEv Z hE ea2) rfl ?_
  refine J_acmp_ne Z.1 16 dX2_changes_7 (by decide) (fun c3 => ?_) (fun c3 => ?_)
  · rw [if_neg c3] at hf
    refine J_iconst Z.1 (v := 0) (by decide) dX2_changes_16 ?_
    exact pX2_changes_b17_ok Z hK hE t0  _ hf
  · rw [if_pos c3] at hf
    refine J_sipush Z.1 (v := 4096) (by decide) dX2_changes_10 ?_
    refine J_goto Z.1 17 dX2_changes_13 (by decide) ?_
    exact pX2_changes_b17_ok Z hK hE t0  _ hf
theorem dX7_init_0 : decode cX7_init 0 = .ok (.aload_n 0, 1) := by decide +kernel
theorem dX7_init_1 : decode cX7_init 1 = .ok (.invokespecial 3, 3) := by decide +kernel
theorem dX7_init_4 : decode cX7_init 4 = .ok (.aload_n 0, 1) := by decide +kernel
theorem dX7_init_5 : decode cX7_init 5 = .ok (.bipush 30, 2) := by decide +kernel
theorem dX7_init_7 : decode cX7_init 7 = .ok (.anewarray 9, 3) := by decide +kernel
theorem dX7_init_10 : decode cX7_init 10 = .ok (.putfield 11, 3) := by decide +kernel
theorem dX7_init_13 : decode cX7_init 13 = .ok (.return_, 1) := by decide +kernel
def pX7_init (g : MT) (h : CT) (this : Nat) : Option (MT × CT) := gq Prod.fst g (gq Prod.fst (gA g 25 30) (lt (gA g 25 30) fun g1 => (lt (hZ h (gN g)) fun h2 => (lt (gN g) fun a3 => (tg g1 this 6 (lt (sR h2 this 0 (some a3)) fun h7 => (some (g1, h7))))))))
theorem pX7_init_mono {g g0 : MT} {h h0 : CT} {this : Nat} (hf : pX7_init g h this = some (g0, h0)) : gN g ≤ gN g0 ∧ gU g ≤ gU g0 := by
  unfold pX7_init at hf
  exact (gq_i hf).1
set_option maxRecDepth 10000 in
set_option maxHeartbeats 4000000 in
theorem pX7_init_ok (G : Gx) (dk : Nat) (hK : 1 ≤ dk) {g g0 : MT} {h h0 : CT} {this : Nat} (hf : pX7_init g h this = some (g0, h0)) : Ctr G dk yX7_init cX7_init 1 none [va_rf (some this)] g h none g0 h0 := by
  unfold pX7_init at hf
  replace hf := gq_i hf
  obtain ⟨hm, hf⟩ := hf
  refine Ctr.ofY (lv := [(0, va_rf (some this))]) (by decide +kernel) (by simp [cat_i, cat_l, cat_d, cat_rf]) rfl hm fun X Z M => ?_
  refine J_aload_n Z.1 0 dX7_init_0 rfl rfl ?_
  refine J_objInit Z.1 dX7_init_1 q_272 q_168 q_169 (yO2 Z (by omega) (by simp [cat_i, cat_l, cat_d, cat_rf])) (yF Z (d := 0) (by omega)) ?_
  refine J_aload_n Z.1 0 dX7_init_4 rfl rfl ?_
  refine J_bipush Z.1 (v := 30) (by decide) dX7_init_5 ?_
  replace hf := gq_i hf
  obtain ⟨n4, hf⟩ := hf
  have M5 := rmA Z M n4
  refine J_newq (t := 5) (N := 30) Z.1 dX7_init_7 rfl q_273 (kaoX2 Z.1) (by decide) (by decide) (by decide) M M5 ?_
  refine J_tg (fun g1 eg1 => ?_)
  rw [← eg1] at M5
  replace hf := lt_i hf g1 eg1
  refine J_th (fun h2 eh2 => ?_)
  replace hf := lt_i hf h2 eh2
  refine J_ta (fun a3 ea3 => ?_)
  replace hf := lt_i hf a3 ea3
  replace hf := tg_i hf
  obtain ⟨t6, hf⟩ := hf
  refine J_putR Z.1 dX7_init_10 fl_X7_11 (fun _ => ⟨Z.2.2.2.2.2.2.2, _, rfl, rfl⟩) t6 (Or.inr ⟨_, rfl⟩) ?_
  refine J_th (fun h7 eh7 => ?_)
  replace hf := lt_i hf h7 eh7
  cases hf
  exact J_vret Z.1 Z.2.2.2.2.1 dX7_init_13
theorem dX7_append_0 : decode cX7_append 0 = .ok (.new 9, 3) := by decide +kernel
theorem dX7_append_3 : decode cX7_append 3 = .ok (.dup, 1) := by decide +kernel
theorem dX7_append_4 : decode cX7_append 4 = .ok (.aload_n 1, 1) := by decide +kernel
theorem dX7_append_5 : decode cX7_append 5 = .ok (.invokespecial 17, 3) := by decide +kernel
theorem dX7_append_8 : decode cX7_append 8 = .ok (.astore_n 2, 1) := by decide +kernel
theorem dX7_append_9 : decode cX7_append 9 = .ok (.aload_n 0, 1) := by decide +kernel
theorem dX7_append_10 : decode cX7_append 10 = .ok (.getfield 20, 3) := by decide +kernel
theorem dX7_append_13 : decode cX7_append 13 = .ok (.aload_n 0, 1) := by decide +kernel
theorem dX7_append_14 : decode cX7_append 14 = .ok (.getfield 11, 3) := by decide +kernel
theorem dX7_append_17 : decode cX7_append 17 = .ok (.arraylength, 1) := by decide +kernel
theorem dX7_append_18 : decode cX7_append 18 = .ok (.if_icmp .ge 23, 3) := by decide +kernel
theorem dX7_append_21 : decode cX7_append 21 = .ok (.aload_n 0, 1) := by decide +kernel
theorem dX7_append_22 : decode cX7_append 22 = .ok (.getfield 11, 3) := by decide +kernel
theorem dX7_append_25 : decode cX7_append 25 = .ok (.aload_n 0, 1) := by decide +kernel
theorem dX7_append_26 : decode cX7_append 26 = .ok (.getfield 20, 3) := by decide +kernel
theorem dX7_append_29 : decode cX7_append 29 = .ok (.aload_n 2, 1) := by decide +kernel
theorem dX7_append_30 : decode cX7_append 30 = .ok (.aastore, 1) := by decide +kernel
theorem dX7_append_31 : decode cX7_append 31 = .ok (.aload_n 0, 1) := by decide +kernel
theorem dX7_append_32 : decode cX7_append 32 = .ok (.dup, 1) := by decide +kernel
theorem dX7_append_33 : decode cX7_append 33 = .ok (.getfield 20, 3) := by decide +kernel
theorem dX7_append_36 : decode cX7_append 36 = .ok (.iconst 1, 1) := by decide +kernel
theorem dX7_append_37 : decode cX7_append 37 = .ok (.iadd, 1) := by decide +kernel
theorem dX7_append_38 : decode cX7_append 38 = .ok (.putfield 20, 3) := by decide +kernel
theorem dX7_append_41 : decode cX7_append 41 = .ok (.aload_n 2, 1) := by decide +kernel
theorem dX7_append_42 : decode cX7_append 42 = .ok (.areturn, 1) := by decide +kernel
def pX7_append (g : MT) (h : CT) (this : Nat) (p1 : Nat) : Option ((Option Nat) × MT × CT) := gq (fun z => z.2.1) g (gq (fun z => z.2.1) (gA g 2 10) (lt (gA g 2 10) fun g1 => (lt (hZ h (gN g)) fun h2 => (lt (gN g) fun a3 => (tg g1 a3 2 (bd2 (pX2_init g1 h2 a3 p1) fun g7 h8 => (gq (fun z => z.2.1) g7 (tg g7 this 6 (lt (hR h8 this 0) fun r13 => (nn r13 fun a13 => (tg g7 a13 25 (if (Int32.ofNat (gL g7 a13)) ≤ (hI h8 this 1) then some ((some a3), g7, h8) else lt (hR h8 this 0) fun r16 => (nn r16 fun a16 => (tg g7 a16 25 (ix (gL g7 a16) (hI h8 this 1) (tg g7 a3 2 (lt (sR h8 a16 (Int32.toNatClampNeg (hI h8 this 1)) (some a3)) fun h20 => (lt (sI h20 this 1 ((hI h20 this 1) + 1)) fun h21 => (some ((some a3), g7, h21))))))))))))))))))))
theorem pX7_append_mono {g g0 : MT} {h h0 : CT} {this : Nat} {p1 : Nat} {r0 : Option Nat} (hf : pX7_append g h this p1 = some (r0, g0, h0)) : gN g ≤ gN g0 ∧ gU g ≤ gU g0 := by
  unfold pX7_append at hf
  exact (gq_i hf).1
set_option maxRecDepth 10000 in
set_option maxHeartbeats 4000000 in
theorem pX7_append_ok (G : Gx) (dk : Nat) (hK : 2 ≤ dk) {g g0 : MT} {h h0 : CT} {this : Nat} {p1 : Nat} {r0 : Option Nat} (hf : pX7_append g h this p1 = some (r0, g0, h0)) : Ctr G dk yX7_append cX7_append 3 (some (.object "VectorPipes$Inst\x72")) [va_rf (some this), va_rf (some p1)] g h (some (va_rf r0)) g0 h0 := by
  unfold pX7_append at hf
  replace hf := gq_i hf
  obtain ⟨hm, hf⟩ := hf
  refine Ctr.ofY (lv := [(0, va_rf (some this)), (1, va_rf (some p1))]) (by decide +kernel) (by simp [cat_i, cat_l, cat_d, cat_rf]) rfl hm fun X Z M => ?_
  replace hf := gq_i hf
  obtain ⟨n4, hf⟩ := hf
  have M5 := rmA Z M n4
  refine J_new (ci := 1) (r := (RX2, TX2, 10)) Z.1 dX7_append_0 rfl q_273 q_757 q_157 M M5 ?_
  refine J_tg (fun g1 eg1 => ?_)
  rw [← eg1] at M5
  replace hf := lt_i hf g1 eg1
  refine J_th (fun h2 eh2 => ?_)
  replace hf := lt_i hf h2 eh2
  refine J_ta (fun a3 ea3 => ?_)
  replace hf := lt_i hf a3 ea3
  refine J_dup Z.1 dX7_append_3 rfl ?_
  refine J_aload_n Z.1 1 dX7_append_4 rfl rfl ?_
  replace hf := tg_i hf
  obtain ⟨t6, hf⟩ := hf
  replace hf := bd2_i hf
  obtain ⟨g7, h8, q9, hf⟩ := hf
  replace hf := gq_i hf
  obtain ⟨n10, hf⟩ := hf
  have M11o := pX2_init_mono q9
  have M11 := rmC Z M5 M11o n10
  refine J_callI (as := [va_rf (some p1)]) (rest := [va_rf (some a3)]) (sy := [va_rf (some a3)]) Z.1 dX7_append_5 cw_X7_17 (pX2_init_ok G (dk - 1) (by omega) q9) (yG Z) rfl (by simp [cat_i, cat_l, cat_d, cat_rf]) (yF Z (by omega)) (yO Z (by omega) (by decide)) M11o M5 M11 rfl rfl ?_
  refine J_astore_n Z.1 (lv2 := [(2, va_rf (some a3)), (0, va_rf (some this)), (1, va_rf (some p1))]) dX7_append_8 rfl (yL Z (by decide)) rfl ?_
  refine J_aload_n Z.1 1 dX7_append_9 rfl rfl ?_
  replace hf := tg_i hf
  obtain ⟨t12, hf⟩ := hf
  refine J_get (v := .int (hI h8 this 1)) Z.1 dX7_append_10 fl_X7_20 t12 rfl ?_
  refine J_aload_n Z.1 1 dX7_append_13 rfl rfl ?_
  refine J_get (v := va_rf (hR h8 this 0)) Z.1 dX7_append_14 fl_X7_11 t12 rfl ?_
  refine J_tr (fun r13 er13 => ?_)
  replace hf := lt_i hf r13 er13
  replace hf := nn_i hf
  obtain ⟨a13, rfl, hf⟩ := hf
  replace hf := tg_i hf
  obtain ⟨t14, hf⟩ := hf
  refine J_alen (t := 5) Z.1 dX7_append_17 t14 rfl ?_
  refine J_icmp_ge Z.1 41 dX7_append_18 (by decide) (fun c15 => ?_) (fun c15 => ?_)
  · rw [if_pos c15] at hf
    refine J_aload_n Z.1 0 dX7_append_41 rfl rfl ?_
    cases hf
    exact J_aret Z.1 Z.2.2.2.2.1 dX7_append_42
  · rw [if_neg c15] at hf
    refine J_aload_n Z.1 1 dX7_append_21 rfl rfl ?_
    refine J_get (v := va_rf (hR h8 this 0)) Z.1 dX7_append_22 fl_X7_11 t12 rfl ?_
    refine J_tr (fun r16 er16 => ?_)
    replace hf := lt_i hf r16 er16
    refine J_aload_n Z.1 1 dX7_append_25 rfl rfl ?_
    refine J_get (v := .int (hI h8 this 1)) Z.1 dX7_append_26 fl_X7_20 t12 rfl ?_
    refine J_aload_n Z.1 0 dX7_append_29 rfl rfl ?_
    replace hf := nn_i hf
    obtain ⟨a16, rfl, hf⟩ := hf
    replace hf := tg_i hf
    obtain ⟨t17, hf⟩ := hf
    replace hf := ix_i hf
    obtain ⟨i18, hf⟩ := hf
    replace hf := tg_i hf
    obtain ⟨t19, hf⟩ := hf
    refine J_aastore (t := 5) (ci := 1) (r := (RX2, TX2, 10)) Z.1 dX7_append_30 t17 rfl rfl t19 i18 ?_
    refine J_th (fun h20 eh20 => ?_)
    replace hf := lt_i hf h20 eh20
    refine J_aload_n Z.1 1 dX7_append_31 rfl rfl ?_
    refine J_dup Z.1 dX7_append_32 rfl ?_
    refine J_get (v := .int (hI h20 this 1)) Z.1 dX7_append_33 fl_X7_20 t12 rfl ?_
    refine J_iconst Z.1 (v := 1) (by decide) dX7_append_36 ?_
    refine J_iadd Z.1 dX7_append_37 ?_
    refine J_putI Z.1 dX7_append_38 fl_X7_20 (fun q => by cases q) t12 rfl rfl (congrArg Value.int (hI_s _ _ _ _)) ?_
    refine J_th (fun h21 eh21 => ?_)
    replace hf := lt_i hf h21 eh21
    refine J_aload_n Z.1 0 dX7_append_41 rfl rfl ?_
    cases hf
    exact J_aret Z.1 Z.2.2.2.2.1 dX7_append_42
theorem dX7_at_0 : decode cX7_at 0 = .ok (.iload_n 1, 1) := by decide +kernel
theorem dX7_at_1 : decode cX7_at 1 = .ok (.ifCond .lt 29, 3) := by decide +kernel
theorem dX7_at_4 : decode cX7_at 4 = .ok (.iload_n 1, 1) := by decide +kernel
theorem dX7_at_5 : decode cX7_at 5 = .ok (.aload_n 0, 1) := by decide +kernel
theorem dX7_at_6 : decode cX7_at 6 = .ok (.getfield 20, 3) := by decide +kernel
theorem dX7_at_9 : decode cX7_at 9 = .ok (.if_icmp .ge 21, 3) := by decide +kernel
theorem dX7_at_12 : decode cX7_at 12 = .ok (.iload_n 1, 1) := by decide +kernel
theorem dX7_at_13 : decode cX7_at 13 = .ok (.aload_n 0, 1) := by decide +kernel
theorem dX7_at_14 : decode cX7_at 14 = .ok (.getfield 11, 3) := by decide +kernel
theorem dX7_at_17 : decode cX7_at 17 = .ok (.arraylength, 1) := by decide +kernel
theorem dX7_at_18 : decode cX7_at 18 = .ok (.if_icmp .ge 12, 3) := by decide +kernel
theorem dX7_at_21 : decode cX7_at 21 = .ok (.aload_n 0, 1) := by decide +kernel
theorem dX7_at_22 : decode cX7_at 22 = .ok (.getfield 11, 3) := by decide +kernel
theorem dX7_at_25 : decode cX7_at 25 = .ok (.iload_n 1, 1) := by decide +kernel
theorem dX7_at_26 : decode cX7_at 26 = .ok (.aaload, 1) := by decide +kernel
theorem dX7_at_27 : decode cX7_at 27 = .ok (.goto 4, 3) := by decide +kernel
theorem dX7_at_30 : decode cX7_at 30 = .ok (.aconst_null, 1) := by decide +kernel
theorem dX7_at_31 : decode cX7_at 31 = .ok (.areturn, 1) := by decide +kernel
def pX7_at (g : MT) (h : CT) (this : Nat) (p1 : Int32) : Option (Option Nat) := tg g this 6 (if p1 < 0 then some none else if (hI h this 1) ≤ p1 then some none else lt (hR h this 0) fun r3 => (nn r3 fun a3 => (tg g a3 25 (if (Int32.ofNat (gL g a3)) ≤ p1 then some none else lt (hR h this 0) fun r6 => (nn r6 fun a6 => (tg g a6 25 (ix (gL g a6) p1 (lt (hR h a6 (Int32.toNatClampNeg p1)) fun r9 => (some r9)))))))))
set_option maxRecDepth 10000 in
set_option maxHeartbeats 4000000 in
theorem pX7_at_ok (G : Gx) (dk : Nat) (hK : 0 ≤ dk) {g : MT} {h : CT} {this : Nat} {p1 : Int32} {r0 : Option Nat} (hf : pX7_at g h this p1 = some r0) : Ctr G dk yX7_at cX7_at 2 (some (.object "VectorPipes$Inst\x72")) [va_rf (some this), .int p1] g h (some (va_rf r0)) g h := by
  refine Ctr.ofZ (lv := [(0, va_rf (some this)), (1, .int p1)]) (by decide +kernel) (by simp [cat_i, cat_l, cat_d, cat_rf]) rfl fun X Z => ?_
  unfold pX7_at at hf
  replace hf := tg_i hf
  obtain ⟨t0, hf⟩ := hf
  refine J_iload_n Z.1 1 dX7_at_0 rfl rfl ?_
  refine J_if_lt Z.1 30 dX7_at_1 (by decide) (fun c1 => ?_) (fun c1 => ?_)
  · rw [if_pos c1] at hf
    refine J_null Z.1 dX7_at_30 ?_
    cases hf
    exact J_aret Z.1 Z.2.2.2.2.2 dX7_at_31
  · rw [if_neg c1] at hf
    refine J_iload_n Z.1 1 dX7_at_4 rfl rfl ?_
    refine J_aload_n Z.1 0 dX7_at_5 rfl rfl ?_
    refine J_get (v := .int (hI h this 1)) Z.1 dX7_at_6 fl_X7_20 t0 rfl ?_
    refine J_icmp_ge Z.1 30 dX7_at_9 (by decide) (fun c2 => ?_) (fun c2 => ?_)
    · rw [if_pos c2] at hf
      refine J_null Z.1 dX7_at_30 ?_
      cases hf
      exact J_aret Z.1 Z.2.2.2.2.2 dX7_at_31
    · rw [if_neg c2] at hf
      refine J_iload_n Z.1 1 dX7_at_12 rfl rfl ?_
      refine J_aload_n Z.1 0 dX7_at_13 rfl rfl ?_
      refine J_get (v := va_rf (hR h this 0)) Z.1 dX7_at_14 fl_X7_11 t0 rfl ?_
      refine J_tr (fun r3 er3 => ?_)
      replace hf := lt_i hf r3 er3
      replace hf := nn_i hf
      obtain ⟨a3, rfl, hf⟩ := hf
      replace hf := tg_i hf
      obtain ⟨t4, hf⟩ := hf
      refine J_alen (t := 5) Z.1 dX7_at_17 t4 rfl ?_
      refine J_icmp_ge Z.1 30 dX7_at_18 (by decide) (fun c5 => ?_) (fun c5 => ?_)
      · rw [if_pos c5] at hf
        refine J_null Z.1 dX7_at_30 ?_
        cases hf
        exact J_aret Z.1 Z.2.2.2.2.2 dX7_at_31
      · rw [if_neg c5] at hf
        refine J_aload_n Z.1 0 dX7_at_21 rfl rfl ?_
        refine J_get (v := va_rf (hR h this 0)) Z.1 dX7_at_22 fl_X7_11 t0 rfl ?_
        refine J_tr (fun r6 er6 => ?_)
        replace hf := lt_i hf r6 er6
        refine J_iload_n Z.1 1 dX7_at_25 rfl rfl ?_
        replace hf := nn_i hf
        obtain ⟨a6, rfl, hf⟩ := hf
        replace hf := tg_i hf
        obtain ⟨t7, hf⟩ := hf
        replace hf := ix_i hf
        obtain ⟨i8, hf⟩ := hf
        refine J_aaload (t := 5) Z.1 dX7_at_26 t7 rfl i8 ?_
        refine J_tr (fun r9 er9 => ?_)
        replace hf := lt_i hf r9 er9
        refine J_goto Z.1 31 dX7_at_27 (by decide) ?_
        cases hf
        exact J_aret Z.1 Z.2.2.2.2.2 dX7_at_31
theorem dX7_copySwapped_0 : decode cX7_copySwapped 0 = .ok (.aload_n 0, 1) := by decide +kernel
theorem dX7_copySwapped_1 : decode cX7_copySwapped 1 = .ok (.aload_n 1, 1) := by decide +kernel
theorem dX7_copySwapped_2 : decode cX7_copySwapped 2 = .ok (.getfield 20, 3) := by decide +kernel
theorem dX7_copySwapped_5 : decode cX7_copySwapped 5 = .ok (.putfield 20, 3) := by decide +kernel
theorem dX7_copySwapped_8 : decode cX7_copySwapped 8 = .ok (.iconst 0, 1) := by decide +kernel
theorem dX7_copySwapped_9 : decode cX7_copySwapped 9 = .ok (.istore_n 3, 1) := by decide +kernel
theorem dX7_copySwapped_10 : decode cX7_copySwapped 10 = .ok (.iload_n 3, 1) := by decide +kernel
theorem dX7_copySwapped_11 : decode cX7_copySwapped 11 = .ok (.aload_n 0, 1) := by decide +kernel
theorem dX7_copySwapped_12 : decode cX7_copySwapped 12 = .ok (.getfield 20, 3) := by decide +kernel
theorem dX7_copySwapped_15 : decode cX7_copySwapped 15 = .ok (.if_icmp .ge 29, 3) := by decide +kernel
theorem dX7_copySwapped_18 : decode cX7_copySwapped 18 = .ok (.iload_n 3, 1) := by decide +kernel
theorem dX7_copySwapped_19 : decode cX7_copySwapped 19 = .ok (.aload_n 0, 1) := by decide +kernel
theorem dX7_copySwapped_20 : decode cX7_copySwapped 20 = .ok (.getfield 11, 3) := by decide +kernel
theorem dX7_copySwapped_23 : decode cX7_copySwapped 23 = .ok (.arraylength, 1) := by decide +kernel
theorem dX7_copySwapped_24 : decode cX7_copySwapped 24 = .ok (.if_icmp .ge 20, 3) := by decide +kernel
theorem dX7_copySwapped_27 : decode cX7_copySwapped 27 = .ok (.aload_n 0, 1) := by decide +kernel
theorem dX7_copySwapped_28 : decode cX7_copySwapped 28 = .ok (.getfield 11, 3) := by decide +kernel
theorem dX7_copySwapped_31 : decode cX7_copySwapped 31 = .ok (.iload_n 3, 1) := by decide +kernel
theorem dX7_copySwapped_32 : decode cX7_copySwapped 32 = .ok (.aload_n 1, 1) := by decide +kernel
theorem dX7_copySwapped_33 : decode cX7_copySwapped 33 = .ok (.iload_n 3, 1) := by decide +kernel
theorem dX7_copySwapped_34 : decode cX7_copySwapped 34 = .ok (.invokevirtual 24, 3) := by decide +kernel
theorem dX7_copySwapped_37 : decode cX7_copySwapped 37 = .ok (.aastore, 1) := by decide +kernel
theorem dX7_copySwapped_38 : decode cX7_copySwapped 38 = .ok (.iinc 3 1, 3) := by decide +kernel
theorem dX7_copySwapped_41 : decode cX7_copySwapped 41 = .ok (.goto (-31), 3) := by decide +kernel
theorem dX7_copySwapped_44 : decode cX7_copySwapped 44 = .ok (.aload_n 1, 1) := by decide +kernel
theorem dX7_copySwapped_45 : decode cX7_copySwapped 45 = .ok (.iload_n 2, 1) := by decide +kernel
theorem dX7_copySwapped_46 : decode cX7_copySwapped 46 = .ok (.invokevirtual 24, 3) := by decide +kernel
theorem dX7_copySwapped_49 : decode cX7_copySwapped 49 = .ok (.astore_n 3, 1) := by decide +kernel
theorem dX7_copySwapped_50 : decode cX7_copySwapped 50 = .ok (.aload_n 1, 1) := by decide +kernel
theorem dX7_copySwapped_51 : decode cX7_copySwapped 51 = .ok (.iload_n 2, 1) := by decide +kernel
theorem dX7_copySwapped_52 : decode cX7_copySwapped 52 = .ok (.iconst 1, 1) := by decide +kernel
theorem dX7_copySwapped_53 : decode cX7_copySwapped 53 = .ok (.iadd, 1) := by decide +kernel
theorem dX7_copySwapped_54 : decode cX7_copySwapped 54 = .ok (.invokevirtual 24, 3) := by decide +kernel
theorem dX7_copySwapped_57 : decode cX7_copySwapped 57 = .ok (.astore 4, 2) := by decide +kernel
theorem dX7_copySwapped_59 : decode cX7_copySwapped 59 = .ok (.aload_n 3, 1) := by decide +kernel
theorem dX7_copySwapped_60 : decode cX7_copySwapped 60 = .ok (.ifnull 25, 3) := by decide +kernel
theorem dX7_copySwapped_63 : decode cX7_copySwapped 63 = .ok (.aload 4, 2) := by decide +kernel
theorem dX7_copySwapped_65 : decode cX7_copySwapped 65 = .ok (.ifnull 20, 3) := by decide +kernel
theorem dX7_copySwapped_68 : decode cX7_copySwapped 68 = .ok (.aload_n 0, 1) := by decide +kernel
theorem dX7_copySwapped_69 : decode cX7_copySwapped 69 = .ok (.getfield 11, 3) := by decide +kernel
theorem dX7_copySwapped_72 : decode cX7_copySwapped 72 = .ok (.iload_n 2, 1) := by decide +kernel
theorem dX7_copySwapped_73 : decode cX7_copySwapped 73 = .ok (.aload 4, 2) := by decide +kernel
theorem dX7_copySwapped_75 : decode cX7_copySwapped 75 = .ok (.aastore, 1) := by decide +kernel
theorem dX7_copySwapped_76 : decode cX7_copySwapped 76 = .ok (.aload_n 0, 1) := by decide +kernel
theorem dX7_copySwapped_77 : decode cX7_copySwapped 77 = .ok (.getfield 11, 3) := by decide +kernel
theorem dX7_copySwapped_80 : decode cX7_copySwapped 80 = .ok (.iload_n 2, 1) := by decide +kernel
theorem dX7_copySwapped_81 : decode cX7_copySwapped 81 = .ok (.iconst 1, 1) := by decide +kernel
theorem dX7_copySwapped_82 : decode cX7_copySwapped 82 = .ok (.iadd, 1) := by decide +kernel
theorem dX7_copySwapped_83 : decode cX7_copySwapped 83 = .ok (.aload_n 3, 1) := by decide +kernel
theorem dX7_copySwapped_84 : decode cX7_copySwapped 84 = .ok (.aastore, 1) := by decide +kernel
theorem dX7_copySwapped_85 : decode cX7_copySwapped 85 = .ok (.return_, 1) := by decide +kernel
def pX7_copySwapped_b44 (g : MT) (this : Nat) (p1 : Nat) (p2 : Int32) (h : CT) : Option CT := tg g p1 6 (bd (pX7_at g h p1 p2) fun r2 => (bd (pX7_at g h p1 (p2 + 1)) fun r4 => (if r2 = none then some h else if r4 = none then some h else lt (hR h this 0) fun r8 => (nn r8 fun a8 => (tg g a8 25 (ix (gL g a8) p2 (nn r4 fun a4 => (tg g a4 2 (lt (sR h a8 (Int32.toNatClampNeg p2) (some a4)) fun h12 => (lt (hR h12 this 0) fun r13 => (nn r13 fun a13 => (tg g a13 25 (ix (gL g a13) (p2 + 1) (nn r2 fun a2 => (tg g a2 2 (lt (sR h12 a13 (Int32.toNatClampNeg (p2 + 1)) (some a2)) fun h17 => (some h17)))))))))))))))))
set_option maxRecDepth 10000 in
set_option maxHeartbeats 4000000 in
theorem pX7_copySwapped_b44_ok {X : Cx} {G : Gx} {dk : Nat} {g : MT} {h0 : CT} {this : Nat} {p1 : Nat} {p2 : Int32} (Z : Zx X G cX7_copySwapped RX7 5 dk none none g h0) (hK : 1 ≤ dk) (t0 : gT g this = 6) (h : CT) (hf : pX7_copySwapped_b44 g this p1 p2 h = some h0) : J X g h 44 [(0, va_rf (some this)), (1, va_rf (some p1)), (2, .int p2)] [] := by
  unfold pX7_copySwapped_b44 at hf
  refine J_aload_n Z.1 1 dX7_copySwapped_44 rfl rfl ?_
  refine J_iload_n Z.1 2 dX7_copySwapped_45 rfl rfl ?_
  replace hf := tg_i hf
  obtain ⟨t1, hf⟩ := hf
  replace hf := bd_i hf
  obtain ⟨r2, q3, hf⟩ := hf
  refine J_callV (ci := 5) (as := [.int p2]) (rest := []) (sy := [va_rf r2]) Z.1 dX7_copySwapped_46 cw_X7_24 (pX7_at_ok G (dk - 1) (by omega) q3) rfl rfl t1 (zG Z) rfl (by decide) (zF Z (by omega)) (zO Z (by omega) (by decide)) (zM _) Z.2.1 Z.2.1 rfl rfl ?_
  refine J_astore_n Z.1 (lv2 := [(3, va_rf r2), (0, va_rf (some this)), (1, va_rf (some p1)), (2, .int p2)]) dX7_copySwapped_49 rfl (zL Z (by decide)) rfl ?_
  refine J_aload_n Z.1 2 dX7_copySwapped_50 rfl rfl ?_
  refine J_iload_n Z.1 3 dX7_copySwapped_51 rfl rfl ?_
  refine J_iconst Z.1 (v := 1) (by decide) dX7_copySwapped_52 ?_
  refine J_iadd Z.1 dX7_copySwapped_53 ?_
  replace hf := bd_i hf
  obtain ⟨r4, q5, hf⟩ := hf
  refine J_callV (ci := 5) (as := [.int (p2 + 1)]) (rest := []) (sy := [va_rf r4]) Z.1 dX7_copySwapped_54 cw_X7_24 (pX7_at_ok G (dk - 1) (by omega) q5) rfl rfl t1 (zG Z) rfl (by decide) (zF Z (by omega)) (zO Z (by omega) (by decide)) (zM _) Z.2.1 Z.2.1 rfl rfl ?_
  refine J_astore Z.1 (lv2 := [(4, va_rf r4), (3, va_rf r2), (0, va_rf (some this)), (1, va_rf (some p1)), (2, .int p2)]) dX7_copySwapped_57 (zL Z (by decide)) (by simp [ls1, ls2, cat_i, cat_l, cat_d, cat_rf]) ?_
  refine J_aload_n Z.1 1 dX7_copySwapped_59 rfl rfl ?_
  refine J_ifnull Z.1 85 dX7_copySwapped_60 (by decide) (fun c6 => ?_) (fun c6 => ?_)
  · rw [if_pos c6] at hf
    cases hf
    exact J_vret Z.1 Z.2.2.2.2.2 dX7_copySwapped_85
  · rw [if_neg c6] at hf
    refine J_aload Z.1 0 dX7_copySwapped_63 rfl ?_
    refine J_ifnull Z.1 85 dX7_copySwapped_65 (by decide) (fun c7 => ?_) (fun c7 => ?_)
    · rw [if_pos c7] at hf
      cases hf
      exact J_vret Z.1 Z.2.2.2.2.2 dX7_copySwapped_85
    · rw [if_neg c7] at hf
      refine J_aload_n Z.1 2 dX7_copySwapped_68 rfl rfl ?_
      refine J_get (v := va_rf (hR h this 0)) Z.1 dX7_copySwapped_69 fl_X7_11 t0 rfl ?_
      refine J_tr (fun r8 er8 => ?_)
      replace hf := lt_i hf r8 er8
      refine J_iload_n Z.1 4 dX7_copySwapped_72 rfl rfl ?_
      refine J_aload Z.1 0 dX7_copySwapped_73 rfl ?_
      replace hf := nn_i hf
      obtain ⟨a8, rfl, hf⟩ := hf
      replace hf := tg_i hf
      obtain ⟨t9, hf⟩ := hf
      replace hf := ix_i hf
      obtain ⟨i10, hf⟩ := hf
      replace hf := nn_i hf
      obtain ⟨a4, rfl, hf⟩ := hf
      replace hf := tg_i hf
      obtain ⟨t11, hf⟩ := hf
      refine J_aastore (t := 5) (ci := 1) (r := (RX2, TX2, 10)) Z.1 dX7_copySwapped_75 t9 rfl rfl t11 i10 ?_
      refine J_th (fun h12 eh12 => ?_)
      replace hf := lt_i hf h12 eh12
      refine J_aload_n Z.1 2 dX7_copySwapped_76 rfl rfl ?_
      refine J_get (v := va_rf (hR h12 this 0)) Z.1 dX7_copySwapped_77 fl_X7_11 t0 rfl ?_
      refine J_tr (fun r13 er13 => ?_)
      replace hf := lt_i hf r13 er13
      refine J_iload_n Z.1 4 dX7_copySwapped_80 rfl rfl ?_
      refine J_iconst Z.1 (v := 1) (by decide) dX7_copySwapped_81 ?_
      refine J_iadd Z.1 dX7_copySwapped_82 ?_
      refine J_aload_n Z.1 1 dX7_copySwapped_83 rfl rfl ?_
      replace hf := nn_i hf
      obtain ⟨a13, rfl, hf⟩ := hf
      replace hf := tg_i hf
      obtain ⟨t14, hf⟩ := hf
      replace hf := ix_i hf
      obtain ⟨i15, hf⟩ := hf
      replace hf := nn_i hf
      obtain ⟨a2, rfl, hf⟩ := hf
      replace hf := tg_i hf
      obtain ⟨t16, hf⟩ := hf
      refine J_aastore (t := 5) (ci := 1) (r := (RX2, TX2, 10)) Z.1 dX7_copySwapped_84 t14 rfl rfl t16 i15 ?_
      refine J_th (fun h17 eh17 => ?_)
      replace hf := lt_i hf h17 eh17
      cases hf
      exact J_vret Z.1 Z.2.2.2.2.2 dX7_copySwapped_85
def pX7_copySwapped_b10 (g : MT) (this : Nat) (p1 : Nat) (p2 : Int32) (k10 : Int32 → CT → Option CT) (l3 : Int32) (h : CT) : Option CT := if (hI h this 1) ≤ l3 then pX7_copySwapped_b44 g this p1 p2  h else lt (hR h this 0) fun r2 => (nn r2 fun a2 => (tg g a2 25 (if (Int32.ofNat (gL g a2)) ≤ l3 then pX7_copySwapped_b44 g this p1 p2  h else lt (hR h this 0) fun r5 => (tg g p1 6 (bd (pX7_at g h p1 l3) fun r7 => (nn r5 fun a5 => (tg g a5 25 (ix (gL g a5) l3 (nn r7 fun a7 => (tg g a7 2 (lt (sR h a5 (Int32.toNatClampNeg l3) (some a7)) fun h12 => (lt (l3 + 1) fun x13 => (k10 x13 h12)))))))))))))
set_option maxRecDepth 10000 in
set_option maxHeartbeats 4000000 in
theorem pX7_copySwapped_b10_ok {X : Cx} {G : Gx} {dk : Nat} {g : MT} {h0 : CT} {this : Nat} {p1 : Nat} {p2 : Int32} {k10 : Int32 → CT → Option CT} (Z : Zx X G cX7_copySwapped RX7 5 dk none none g h0) (hK : 1 ≤ dk) (t0 : gT g this = 6) (hk10 : ∀ (l3 : Int32) (h : CT), k10 l3 h = some h0 → J X g h 10 [(0, va_rf (some this)), (1, va_rf (some p1)), (2, .int p2), (3, .int l3)] []) (l3 : Int32) (h : CT) (hf : pX7_copySwapped_b10 g this p1 p2 k10 l3 h = some h0) : J X g h 10 [(0, va_rf (some this)), (1, va_rf (some p1)), (2, .int p2), (3, .int l3)] [] := by
  unfold pX7_copySwapped_b10 at hf
  refine J_iload_n Z.1 3 dX7_copySwapped_10 rfl rfl ?_
  refine J_aload_n Z.1 0 dX7_copySwapped_11 rfl rfl ?_
  refine J_get (v := .int (hI h this 1)) Z.1 dX7_copySwapped_12 fl_X7_20 t0 rfl ?_
  refine J_icmp_ge Z.1 44 dX7_copySwapped_15 (by decide) (fun c1 => ?_) (fun c1 => ?_)
  · rw [if_pos c1] at hf
    refine J_lv [0, 1, 2] rfl ?_
    exact pX7_copySwapped_b44_ok Z hK t0  _ hf
  · rw [if_neg c1] at hf
    refine J_iload_n Z.1 3 dX7_copySwapped_18 rfl rfl ?_
    refine J_aload_n Z.1 0 dX7_copySwapped_19 rfl rfl ?_
    refine J_get (v := va_rf (hR h this 0)) Z.1 dX7_copySwapped_20 fl_X7_11 t0 rfl ?_
    refine J_tr (fun r2 er2 => ?_)
    replace hf := lt_i hf r2 er2
    replace hf := nn_i hf
    obtain ⟨a2, rfl, hf⟩ := hf
    replace hf := tg_i hf
    obtain ⟨t3, hf⟩ := hf
    refine J_alen (t := 5) Z.1 dX7_copySwapped_23 t3 rfl ?_
    refine J_icmp_ge Z.1 44 dX7_copySwapped_24 (by decide) (fun c4 => ?_) (fun c4 => ?_)
    · rw [if_pos c4] at hf
      refine J_lv [0, 1, 2] rfl ?_
      exact pX7_copySwapped_b44_ok Z hK t0  _ hf
    · rw [if_neg c4] at hf
      refine J_aload_n Z.1 0 dX7_copySwapped_27 rfl rfl ?_
      refine J_get (v := va_rf (hR h this 0)) Z.1 dX7_copySwapped_28 fl_X7_11 t0 rfl ?_
      refine J_tr (fun r5 er5 => ?_)
      replace hf := lt_i hf r5 er5
      refine J_iload_n Z.1 3 dX7_copySwapped_31 rfl rfl ?_
      refine J_aload_n Z.1 1 dX7_copySwapped_32 rfl rfl ?_
      refine J_iload_n Z.1 3 dX7_copySwapped_33 rfl rfl ?_
      replace hf := tg_i hf
      obtain ⟨t6, hf⟩ := hf
      replace hf := bd_i hf
      obtain ⟨r7, q8, hf⟩ := hf
      refine J_callV (ci := 5) (as := [.int l3]) (rest := [.int l3, va_rf r5]) (sy := [va_rf r7, .int l3, va_rf r5]) Z.1 dX7_copySwapped_34 cw_X7_24 (pX7_at_ok G (dk - 1) (by omega) q8) rfl rfl t6 (zG Z) rfl (by simp [cat_i, cat_l, cat_d, cat_rf]) (zF Z (by omega)) (zO Z (by omega) (by decide)) (zM _) Z.2.1 Z.2.1 rfl rfl ?_
      replace hf := nn_i hf
      obtain ⟨a5, rfl, hf⟩ := hf
      replace hf := tg_i hf
      obtain ⟨t9, hf⟩ := hf
      replace hf := ix_i hf
      obtain ⟨i10, hf⟩ := hf
      replace hf := nn_i hf
      obtain ⟨a7, rfl, hf⟩ := hf
      replace hf := tg_i hf
      obtain ⟨t11, hf⟩ := hf
      refine J_aastore (t := 5) (ci := 1) (r := (RX2, TX2, 10)) Z.1 dX7_copySwapped_37 t9 rfl rfl t11 i10 ?_
      refine J_th (fun h12 eh12 => ?_)
      replace hf := lt_i hf h12 eh12
      refine J_iinc Z.1 (v := 1) (lv2 := [(3, .int (l3 + 1)), (0, va_rf (some this)), (1, va_rf (some p1)), (2, .int p2)]) 3 dX7_copySwapped_38 rfl (by decide) (zL Z (by decide)) rfl ?_
      obtain ⟨x13, ex13⟩ : ∃ z, z = (l3 + 1) := ⟨_, rfl⟩
      replace hf := lt_i hf x13 ex13
      rw [← ex13]
      refine J_goto Z.1 10 dX7_copySwapped_41 (by decide) ?_
      refine J_lv [1, 2, 3, 0] rfl ?_
      exact hk10 _ _ hf
def pX7_copySwapped_l10 (g : MT) (this : Nat) (p1 : Nat) (p2 : Int32) : Nat → Int32 → CT → Option CT
  | 0, _, _ => none
  | n + 1, l3, h => pX7_copySwapped_b10 g this p1 p2 (pX7_copySwapped_l10 g this p1 p2 n) l3 h
theorem pX7_copySwapped_l10_ok {X : Cx} {G : Gx} {dk : Nat} {g : MT} {h0 : CT} {this : Nat} {p1 : Nat} {p2 : Int32} (Z : Zx X G cX7_copySwapped RX7 5 dk none none g h0) (hK : 1 ≤ dk) (t0 : gT g this = 6) : ∀ (n : Nat) (l3 : Int32) (h : CT), pX7_copySwapped_l10 g this p1 p2 n l3 h = some h0 → J X g h 10 [(0, va_rf (some this)), (1, va_rf (some p1)), (2, .int p2), (3, .int l3)] [] := by
  intro n
  induction n with
  | zero => intro l3 h hf; cases hf
  | succ n ih => intro l3 h hf; exact pX7_copySwapped_b10_ok Z hK t0 ih l3 h hf
def pX7_copySwapped (g : MT) (h : CT) (this : Nat) (p1 : Nat) (p2 : Int32) : Option CT := tg g this 6 (tg g p1 6 (lt (sI h this 1 (hI h p1 1)) fun h2 => (pX7_copySwapped_l10 g this p1 p2  FUEL 0 h2)))
set_option maxRecDepth 10000 in
set_option maxHeartbeats 4000000 in
theorem pX7_copySwapped_ok (G : Gx) (dk : Nat) (hK : 1 ≤ dk) {g : MT} {h h0 : CT} {this : Nat} {p1 : Nat} {p2 : Int32} (hf : pX7_copySwapped g h this p1 p2 = some h0) : Ctr G dk yX7_copySwapped cX7_copySwapped 5 none [va_rf (some this), va_rf (some p1), .int p2] g h none g h0 := by
  refine Ctr.ofZ (lv := [(0, va_rf (some this)), (1, va_rf (some p1)), (2, .int p2)]) (by decide +kernel) (by simp [cat_i, cat_l, cat_d, cat_rf]) rfl fun X Z => ?_
  unfold pX7_copySwapped at hf
  replace hf := tg_i hf
  obtain ⟨t0, hf⟩ := hf
  refine J_aload_n Z.1 0 dX7_copySwapped_0 rfl rfl ?_
  refine J_aload_n Z.1 1 dX7_copySwapped_1 rfl rfl ?_
  replace hf := tg_i hf
  obtain ⟨t1, hf⟩ := hf
  refine J_get (v := .int (hI h p1 1)) Z.1 dX7_copySwapped_2 fl_X7_20 t1 rfl ?_
  refine J_putI Z.1 dX7_copySwapped_5 fl_X7_20 (fun q => by cases q) t0 rfl rfl (congrArg Value.int (hI_s _ _ _ _)) ?_
  refine J_th (fun h2 eh2 => ?_)
  replace hf := lt_i hf h2 eh2
  refine J_iconst Z.1 (v := 0) (by decide) dX7_copySwapped_8 ?_
  refine J_istore_n Z.1 (lv2 := [(3, .int 0), (0, va_rf (some this)), (1, va_rf (some p1)), (2, .int p2)]) dX7_copySwapped_9 rfl (zL Z (by decide)) rfl ?_
  refine J_lv [1, 2, 3, 0] rfl ?_
  exact pX7_copySwapped_l10_ok Z hK t0  FUEL _ _ hf
theorem dX7_ties_0 : decode cX7_ties 0 = .ok (.aload_n 0, 1) := by decide +kernel
theorem dX7_ties_1 : decode cX7_ties 1 = .ok (.iload_n 1, 1) := by decide +kernel
theorem dX7_ties_2 : decode cX7_ties 2 = .ok (.invokevirtual 24, 3) := by decide +kernel
theorem dX7_ties_5 : decode cX7_ties 5 = .ok (.astore_n 3, 1) := by decide +kernel
theorem dX7_ties_6 : decode cX7_ties 6 = .ok (.aload_n 0, 1) := by decide +kernel
theorem dX7_ties_7 : decode cX7_ties 7 = .ok (.iload_n 2, 1) := by decide +kernel
theorem dX7_ties_8 : decode cX7_ties 8 = .ok (.invokevirtual 24, 3) := by decide +kernel
theorem dX7_ties_11 : decode cX7_ties 11 = .ok (.astore 4, 2) := by decide +kernel
theorem dX7_ties_13 : decode cX7_ties 13 = .ok (.aload_n 3, 1) := by decide +kernel
theorem dX7_ties_14 : decode cX7_ties 14 = .ok (.ifnull 29, 3) := by decide +kernel
theorem dX7_ties_17 : decode cX7_ties 17 = .ok (.aload 4, 2) := by decide +kernel
theorem dX7_ties_19 : decode cX7_ties 19 = .ok (.ifnull 24, 3) := by decide +kernel
theorem dX7_ties_22 : decode cX7_ties 22 = .ok (.aload_n 3, 1) := by decide +kernel
theorem dX7_ties_23 : decode cX7_ties 23 = .ok (.getfield 28, 3) := by decide +kernel
theorem dX7_ties_26 : decode cX7_ties 26 = .ok (.invokevirtual 32, 3) := by decide +kernel
theorem dX7_ties_29 : decode cX7_ties 29 = .ok (.ifCond .ne 14, 3) := by decide +kernel
theorem dX7_ties_32 : decode cX7_ties 32 = .ok (.aload 4, 2) := by decide +kernel
theorem dX7_ties_34 : decode cX7_ties 34 = .ok (.getfield 28, 3) := by decide +kernel
theorem dX7_ties_37 : decode cX7_ties 37 = .ok (.invokevirtual 32, 3) := by decide +kernel
theorem dX7_ties_40 : decode cX7_ties 40 = .ok (.ifCond .eq 6, 3) := by decide +kernel
theorem dX7_ties_43 : decode cX7_ties 43 = .ok (.bipush 7, 2) := by decide +kernel
theorem dX7_ties_45 : decode cX7_ties 45 = .ok (.ireturn, 1) := by decide +kernel
theorem dX7_ties_46 : decode cX7_ties 46 = .ok (.aload_n 3, 1) := by decide +kernel
theorem dX7_ties_47 : decode cX7_ties 47 = .ok (.invokevirtual 38, 3) := by decide +kernel
theorem dX7_ties_50 : decode cX7_ties 50 = .ok (.aload 4, 2) := by decide +kernel
theorem dX7_ties_52 : decode cX7_ties 52 = .ok (.invokevirtual 42, 3) := by decide +kernel
theorem dX7_ties_55 : decode cX7_ties 55 = .ok (.iand, 1) := by decide +kernel
theorem dX7_ties_56 : decode cX7_ties 56 = .ok (.ifCond .eq 7, 3) := by decide +kernel
theorem dX7_ties_59 : decode cX7_ties 59 = .ok (.iconst 1, 1) := by decide +kernel
theorem dX7_ties_60 : decode cX7_ties 60 = .ok (.goto 4, 3) := by decide +kernel
theorem dX7_ties_63 : decode cX7_ties 63 = .ok (.iconst 0, 1) := by decide +kernel
theorem dX7_ties_64 : decode cX7_ties 64 = .ok (.aload_n 3, 1) := by decide +kernel
theorem dX7_ties_65 : decode cX7_ties 65 = .ok (.invokevirtual 42, 3) := by decide +kernel
theorem dX7_ties_68 : decode cX7_ties 68 = .ok (.aload 4, 2) := by decide +kernel
theorem dX7_ties_70 : decode cX7_ties 70 = .ok (.invokevirtual 38, 3) := by decide +kernel
theorem dX7_ties_73 : decode cX7_ties 73 = .ok (.iand, 1) := by decide +kernel
theorem dX7_ties_74 : decode cX7_ties 74 = .ok (.ifCond .eq 7, 3) := by decide +kernel
theorem dX7_ties_77 : decode cX7_ties 77 = .ok (.iconst 2, 1) := by decide +kernel
theorem dX7_ties_78 : decode cX7_ties 78 = .ok (.goto 4, 3) := by decide +kernel
theorem dX7_ties_81 : decode cX7_ties 81 = .ok (.iconst 0, 1) := by decide +kernel
theorem dX7_ties_82 : decode cX7_ties 82 = .ok (.ior, 1) := by decide +kernel
theorem dX7_ties_83 : decode cX7_ties 83 = .ok (.aload_n 3, 1) := by decide +kernel
theorem dX7_ties_84 : decode cX7_ties 84 = .ok (.invokevirtual 38, 3) := by decide +kernel
theorem dX7_ties_87 : decode cX7_ties 87 = .ok (.aload 4, 2) := by decide +kernel
theorem dX7_ties_89 : decode cX7_ties 89 = .ok (.invokevirtual 38, 3) := by decide +kernel
theorem dX7_ties_92 : decode cX7_ties 92 = .ok (.iand, 1) := by decide +kernel
theorem dX7_ties_93 : decode cX7_ties 93 = .ok (.ifCond .eq 7, 3) := by decide +kernel
theorem dX7_ties_96 : decode cX7_ties 96 = .ok (.iconst 4, 1) := by decide +kernel
theorem dX7_ties_97 : decode cX7_ties 97 = .ok (.goto 4, 3) := by decide +kernel
theorem dX7_ties_100 : decode cX7_ties 100 = .ok (.iconst 0, 1) := by decide +kernel
theorem dX7_ties_101 : decode cX7_ties 101 = .ok (.ior, 1) := by decide +kernel
theorem dX7_ties_102 : decode cX7_ties 102 = .ok (.ireturn, 1) := by decide +kernel
def pX7_ties_b82 (E : EC) (g : MT) (h : CT) (this : Nat) (p1 : Int32) (p2 : Int32) (r93 : Option Nat) (r94 : Option Nat) (s0 : Int32) (s1 : Int32) : Option Int32 := nn r93 fun a93 => (tg g a93 2 (bd (pX2_changes E g h a93) fun x2 => (nn r94 fun a94 => (tg g a94 2 (bd (pX2_changes E g h a94) fun x5 => (if (x2 &&& x5) = 0 then some ((s0 ||| s1) ||| 0) else some ((s0 ||| s1) ||| 4)))))))
set_option maxRecDepth 10000 in
set_option maxHeartbeats 4000000 in
theorem pX7_ties_b82_ok {X : Cx} {G : Gx} {dk : Nat} {g : MT} {r0 : Int32} {h : CT} {this : Nat} {p1 : Int32} {p2 : Int32} (Z : Zx X G cX7_ties RX7 5 dk (some .int) (some (.int r0)) g h) (hK : 3 ≤ dk) {E : EC} (hE : G.2.2.2 = E) (t0 : gT g this = 6) (r93 : Option Nat) (r94 : Option Nat) (s0 : Int32) (s1 : Int32) (hf : pX7_ties_b82 E g h this p1 p2 r93 r94 s0 s1 = some r0) : J X g h 82 [(3, va_rf r93), (4, va_rf r94)] [.int s1, .int s0] := by
  unfold pX7_ties_b82 at hf
  refine J_ior Z.1 dX7_ties_82 ?_
  refine J_aload_n Z.1 0 dX7_ties_83 rfl rfl ?_
  replace hf := nn_i hf
  obtain ⟨a93, rfl, hf⟩ := hf
  replace hf := tg_i hf
  obtain ⟨t1, hf⟩ := hf
  replace hf := bd_i hf
  obtain ⟨x2, q3, hf⟩ := hf
  refine J_callV (ci := 1) (as := []) (rest := [.int (s0 ||| s1)]) (sy := [.int x2, .int (s0 ||| s1)]) Z.1 dX7_ties_84 cw_X7_38 (pX2_changes_ok G (dk - 1) (by omega) hE q3) rfl rfl t1 (zG Z) rfl (by simp [cat_i, cat_l, cat_d, cat_rf]) (zF Z (by omega)) (zO Z (by omega) (by decide)) (zM _) Z.2.1 Z.2.1 rfl rfl ?_
  refine J_aload Z.1 1 dX7_ties_87 rfl ?_
  replace hf := nn_i hf
  obtain ⟨a94, rfl, hf⟩ := hf
  replace hf := tg_i hf
  obtain ⟨t4, hf⟩ := hf
  replace hf := bd_i hf
  obtain ⟨x5, q6, hf⟩ := hf
  refine J_callV (ci := 1) (as := []) (rest := [.int x2, .int (s0 ||| s1)]) (sy := [.int x5, .int x2, .int (s0 ||| s1)]) Z.1 dX7_ties_89 cw_X7_38 (pX2_changes_ok G (dk - 1) (by omega) hE q6) rfl rfl t4 (zG Z) rfl (by simp [cat_i, cat_l, cat_d, cat_rf]) (zF Z (by omega)) (zO Z (by omega) (by decide)) (zM _) Z.2.1 Z.2.1 rfl rfl ?_
  refine J_iand Z.1 dX7_ties_92 ?_
  refine J_if_eq Z.1 100 dX7_ties_93 (by decide) (fun c7 => ?_) (fun c7 => ?_)
  · rw [if_pos c7] at hf
    refine J_iconst Z.1 (v := 0) (by decide) dX7_ties_100 ?_
    refine J_ior Z.1 dX7_ties_101 ?_
    cases hf
    exact J_iret Z.1 Z.2.2.2.2.2 dX7_ties_102
  · rw [if_neg c7] at hf
    refine J_iconst Z.1 (v := 4) (by decide) dX7_ties_96 ?_
    refine J_goto Z.1 101 dX7_ties_97 (by decide) ?_
    refine J_ior Z.1 dX7_ties_101 ?_
    cases hf
    exact J_iret Z.1 Z.2.2.2.2.2 dX7_ties_102
def pX7_ties_b64 (E : EC) (g : MT) (h : CT) (this : Nat) (p1 : Int32) (p2 : Int32) (r93 : Option Nat) (r94 : Option Nat) (s0 : Int32) : Option Int32 := nn r93 fun a93 => (tg g a93 2 (bd (pX2_uses E g h a93) fun x2 => (nn r94 fun a94 => (tg g a94 2 (bd (pX2_changes E g h a94) fun x5 => (if (x2 &&& x5) = 0 then pX7_ties_b82 E g h this p1 p2  (some a93) (some a94) s0 0 else pX7_ties_b82 E g h this p1 p2  (some a93) (some a94) s0 2))))))
set_option maxRecDepth 10000 in
set_option maxHeartbeats 4000000 in
theorem pX7_ties_b64_ok {X : Cx} {G : Gx} {dk : Nat} {g : MT} {r0 : Int32} {h : CT} {this : Nat} {p1 : Int32} {p2 : Int32} (Z : Zx X G cX7_ties RX7 5 dk (some .int) (some (.int r0)) g h) (hK : 3 ≤ dk) {E : EC} (hE : G.2.2.2 = E) (t0 : gT g this = 6) (r93 : Option Nat) (r94 : Option Nat) (s0 : Int32) (hf : pX7_ties_b64 E g h this p1 p2 r93 r94 s0 = some r0) : J X g h 64 [(3, va_rf r93), (4, va_rf r94)] [.int s0] := by
  unfold pX7_ties_b64 at hf
  refine J_aload_n Z.1 0 dX7_ties_64 rfl rfl ?_
  replace hf := nn_i hf
  obtain ⟨a93, rfl, hf⟩ := hf
  replace hf := tg_i hf
  obtain ⟨t1, hf⟩ := hf
  replace hf := bd_i hf
  obtain ⟨x2, q3, hf⟩ := hf
  refine J_callV (ci := 1) (as := []) (rest := [.int s0]) (sy := [.int x2, .int s0]) Z.1 dX7_ties_65 cw_X7_42 (pX2_uses_ok G (dk - 1) (by omega) hE q3) rfl rfl t1 (zG Z) rfl (by simp [cat_i, cat_l, cat_d, cat_rf]) (zF Z (by omega)) (zO Z (by omega) (by decide)) (zM _) Z.2.1 Z.2.1 rfl rfl ?_
  refine J_aload Z.1 1 dX7_ties_68 rfl ?_
  replace hf := nn_i hf
  obtain ⟨a94, rfl, hf⟩ := hf
  replace hf := tg_i hf
  obtain ⟨t4, hf⟩ := hf
  replace hf := bd_i hf
  obtain ⟨x5, q6, hf⟩ := hf
  refine J_callV (ci := 1) (as := []) (rest := [.int x2, .int s0]) (sy := [.int x5, .int x2, .int s0]) Z.1 dX7_ties_70 cw_X7_38 (pX2_changes_ok G (dk - 1) (by omega) hE q6) rfl rfl t4 (zG Z) rfl (by simp [cat_i, cat_l, cat_d, cat_rf]) (zF Z (by omega)) (zO Z (by omega) (by decide)) (zM _) Z.2.1 Z.2.1 rfl rfl ?_
  refine J_iand Z.1 dX7_ties_73 ?_
  refine J_if_eq Z.1 81 dX7_ties_74 (by decide) (fun c7 => ?_) (fun c7 => ?_)
  · rw [if_pos c7] at hf
    refine J_iconst Z.1 (v := 0) (by decide) dX7_ties_81 ?_
    exact pX7_ties_b82_ok Z hK hE t0  _ _ _ _ hf
  · rw [if_neg c7] at hf
    refine J_iconst Z.1 (v := 2) (by decide) dX7_ties_77 ?_
    refine J_goto Z.1 82 dX7_ties_78 (by decide) ?_
    exact pX7_ties_b82_ok Z hK hE t0  _ _ _ _ hf
def pX7_ties (E : EC) (g : MT) (h : CT) (this : Nat) (p1 : Int32) (p2 : Int32) : Option Int32 := tg g this 6 (bd (pX7_at g h this p1) fun r1 => (bd (pX7_at g h this p2) fun r3 => (if r1 = none then some 7 else if r3 = none then some 7 else nn r1 fun a1 => (tg g a1 2 (lt (hR h a1 0) fun r8 => (nn r8 fun a8 => (tg E.2.2 a8 60 (bd (pX5_steers E g h a8) fun x10 => (if x10 = 0 then nn r3 fun a3 => (tg g a3 2 (lt (hR h a3 0) fun r14 => (nn r14 fun a14 => (tg E.2.2 a14 60 (bd (pX5_steers E g h a14) fun x16 => (if x16 = 0 then bd (pX2_changes E g h a1) fun x19 => (bd (pX2_uses E g h a3) fun x21 => (if (x19 &&& x21) = 0 then pX7_ties_b64 E g h this p1 p2  (some a1) (some a3) 0 else pX7_ties_b64 E g h this p1 p2  (some a1) (some a3) 1)) else some 7)))))) else some 7)))))))))
set_option maxRecDepth 10000 in
set_option maxHeartbeats 4000000 in
theorem pX7_ties_ok (G : Gx) (dk : Nat) (hK : 3 ≤ dk) {g : MT} {E : EC} (hE : G.2.2.2 = E) {h : CT} {this : Nat} {p1 : Int32} {p2 : Int32} {r0 : Int32} (hf : pX7_ties E g h this p1 p2 = some r0) : Ctr G dk yX7_ties cX7_ties 5 (some .int) [va_rf (some this), .int p1, .int p2] g h (some (.int r0)) g h := by
  refine Ctr.ofZ (lv := [(0, va_rf (some this)), (1, .int p1), (2, .int p2)]) (by decide +kernel) (by simp [cat_i, cat_l, cat_d, cat_rf]) rfl fun X Z => ?_
  unfold pX7_ties at hf
  replace hf := tg_i hf
  obtain ⟨t0, hf⟩ := hf
  refine J_aload_n Z.1 0 dX7_ties_0 rfl rfl ?_
  refine J_iload_n Z.1 1 dX7_ties_1 rfl rfl ?_
  replace hf := bd_i hf
  obtain ⟨r1, q2, hf⟩ := hf
  refine J_callV (ci := 5) (as := [.int p1]) (rest := []) (sy := [va_rf r1]) Z.1 dX7_ties_2 cw_X7_24 (pX7_at_ok G (dk - 1) (by omega) q2) rfl rfl t0 (zG Z) rfl (by decide) (zF Z (by omega)) (zO Z (by omega) (by decide)) (zM _) Z.2.1 Z.2.1 rfl rfl ?_
  refine J_astore_n Z.1 (lv2 := [(3, va_rf r1), (0, va_rf (some this)), (1, .int p1), (2, .int p2)]) dX7_ties_5 rfl (zL Z (by decide)) rfl ?_
  refine J_aload_n Z.1 1 dX7_ties_6 rfl rfl ?_
  refine J_iload_n Z.1 3 dX7_ties_7 rfl rfl ?_
  replace hf := bd_i hf
  obtain ⟨r3, q4, hf⟩ := hf
  refine J_callV (ci := 5) (as := [.int p2]) (rest := []) (sy := [va_rf r3]) Z.1 dX7_ties_8 cw_X7_24 (pX7_at_ok G (dk - 1) (by omega) q4) rfl rfl t0 (zG Z) rfl (by decide) (zF Z (by omega)) (zO Z (by omega) (by decide)) (zM _) Z.2.1 Z.2.1 rfl rfl ?_
  refine J_astore Z.1 (lv2 := [(4, va_rf r3), (3, va_rf r1), (0, va_rf (some this)), (1, .int p1), (2, .int p2)]) dX7_ties_11 (zL Z (by decide)) (by simp [ls1, ls2, cat_i, cat_l, cat_d, cat_rf]) ?_
  refine J_aload_n Z.1 1 dX7_ties_13 rfl rfl ?_
  refine J_ifnull Z.1 43 dX7_ties_14 (by decide) (fun c5 => ?_) (fun c5 => ?_)
  · rw [if_pos c5] at hf
    refine J_bipush Z.1 (v := 7) (by decide) dX7_ties_43 ?_
    cases hf
    exact J_iret Z.1 Z.2.2.2.2.2 dX7_ties_45
  · rw [if_neg c5] at hf
    refine J_aload Z.1 0 dX7_ties_17 rfl ?_
    refine J_ifnull Z.1 43 dX7_ties_19 (by decide) (fun c6 => ?_) (fun c6 => ?_)
    · rw [if_pos c6] at hf
      refine J_bipush Z.1 (v := 7) (by decide) dX7_ties_43 ?_
      cases hf
      exact J_iret Z.1 Z.2.2.2.2.2 dX7_ties_45
    · rw [if_neg c6] at hf
      refine J_aload_n Z.1 1 dX7_ties_22 rfl rfl ?_
      replace hf := nn_i hf
      obtain ⟨a1, rfl, hf⟩ := hf
      replace hf := tg_i hf
      obtain ⟨t7, hf⟩ := hf
      refine J_get (v := va_rf (hR h a1 0)) Z.1 dX7_ties_23 fl_X7_28 t7 rfl ?_
      refine J_tr (fun r8 er8 => ?_)
      replace hf := lt_i hf r8 er8
      replace hf := nn_i hf
      obtain ⟨a8, rfl, hf⟩ := hf
      replace hf := tg_i hf
      obtain ⟨t9, hf⟩ := hf
      rw [← zE Z hE] at t9
      replace hf := bd_i hf
      obtain ⟨x10, q11, hf⟩ := hf
      refine J_callK (as := []) (rest := []) (sy := [.int x10]) Z.1 dX7_ties_26 cw_X7_32 (pX5_steers_ok G (dk - 1) (by omega) hE q11) (kO Z.1 t9) (zG Z) rfl (by decide) (zF Z (by omega)) (zO Z (by omega) (by decide)) (zM _) Z.2.1 Z.2.1 rfl rfl ?_
      refine J_if_ne Z.1 43 dX7_ties_29 (by decide) (fun c12 => ?_) (fun c12 => ?_)
      · rw [if_neg c12] at hf
        refine J_bipush Z.1 (v := 7) (by decide) dX7_ties_43 ?_
        cases hf
        exact J_iret Z.1 Z.2.2.2.2.2 dX7_ties_45
      · rw [if_pos c12] at hf
        refine J_aload Z.1 0 dX7_ties_32 rfl ?_
        replace hf := nn_i hf
        obtain ⟨a3, rfl, hf⟩ := hf
        replace hf := tg_i hf
        obtain ⟨t13, hf⟩ := hf
        refine J_get (v := va_rf (hR h a3 0)) Z.1 dX7_ties_34 fl_X7_28 t13 rfl ?_
        refine J_tr (fun r14 er14 => ?_)
        replace hf := lt_i hf r14 er14
        replace hf := nn_i hf
        obtain ⟨a14, rfl, hf⟩ := hf
        replace hf := tg_i hf
        obtain ⟨t15, hf⟩ := hf
        rw [← zE Z hE] at t15
        replace hf := bd_i hf
        obtain ⟨x16, q17, hf⟩ := hf
        refine J_callK (as := []) (rest := []) (sy := [.int x16]) Z.1 dX7_ties_37 cw_X7_32 (pX5_steers_ok G (dk - 1) (by omega) hE q17) (kO Z.1 t15) (zG Z) rfl (by decide) (zF Z (by omega)) (zO Z (by omega) (by decide)) (zM _) Z.2.1 Z.2.1 rfl rfl ?_
        refine J_if_eq Z.1 46 dX7_ties_40 (by decide) (fun c18 => ?_) (fun c18 => ?_)
        · rw [if_pos c18] at hf
          refine J_aload_n Z.1 1 dX7_ties_46 rfl rfl ?_
          replace hf := bd_i hf
          obtain ⟨x19, q20, hf⟩ := hf
          refine J_callV (ci := 1) (as := []) (rest := []) (sy := [.int x19]) Z.1 dX7_ties_47 cw_X7_38 (pX2_changes_ok G (dk - 1) (by omega) hE q20) rfl rfl t7 (zG Z) rfl (by decide) (zF Z (by omega)) (zO Z (by omega) (by decide)) (zM _) Z.2.1 Z.2.1 rfl rfl ?_
          refine J_aload Z.1 0 dX7_ties_50 rfl ?_
          replace hf := bd_i hf
          obtain ⟨x21, q22, hf⟩ := hf
          refine J_callV (ci := 1) (as := []) (rest := [.int x19]) (sy := [.int x21, .int x19]) Z.1 dX7_ties_52 cw_X7_42 (pX2_uses_ok G (dk - 1) (by omega) hE q22) rfl rfl t13 (zG Z) rfl (by simp [cat_i, cat_l, cat_d, cat_rf]) (zF Z (by omega)) (zO Z (by omega) (by decide)) (zM _) Z.2.1 Z.2.1 rfl rfl ?_
          refine J_iand Z.1 dX7_ties_55 ?_
          refine J_if_eq Z.1 63 dX7_ties_56 (by decide) (fun c23 => ?_) (fun c23 => ?_)
          · rw [if_pos c23] at hf
            refine J_iconst Z.1 (v := 0) (by decide) dX7_ties_63 ?_
            refine J_lv [1, 0] rfl ?_
            exact pX7_ties_b64_ok Z hK hE t0  _ _ _ hf
          · rw [if_neg c23] at hf
            refine J_iconst Z.1 (v := 1) (by decide) dX7_ties_59 ?_
            refine J_goto Z.1 64 dX7_ties_60 (by decide) ?_
            refine J_lv [1, 0] rfl ?_
            exact pX7_ties_b64_ok Z hK hE t0  _ _ _ hf
        · rw [if_neg c18] at hf
          refine J_bipush Z.1 (v := 7) (by decide) dX7_ties_43 ?_
          cases hf
          exact J_iret Z.1 Z.2.2.2.2.2 dX7_ties_45
theorem dX7_endsAhead_0 : decode cX7_endsAhead 0 = .ok (.iconst 0, 1) := by decide +kernel
theorem dX7_endsAhead_1 : decode cX7_endsAhead 1 = .ok (.istore_n 2, 1) := by decide +kernel
theorem dX7_endsAhead_2 : decode cX7_endsAhead 2 = .ok (.iload_n 2, 1) := by decide +kernel
theorem dX7_endsAhead_3 : decode cX7_endsAhead 3 = .ok (.aload_n 0, 1) := by decide +kernel
theorem dX7_endsAhead_4 : decode cX7_endsAhead 4 = .ok (.getfield 20, 3) := by decide +kernel
theorem dX7_endsAhead_7 : decode cX7_endsAhead 7 = .ok (.if_icmp .ge 39, 3) := by decide +kernel
theorem dX7_endsAhead_10 : decode cX7_endsAhead 10 = .ok (.aload_n 0, 1) := by decide +kernel
theorem dX7_endsAhead_11 : decode cX7_endsAhead 11 = .ok (.iload_n 2, 1) := by decide +kernel
theorem dX7_endsAhead_12 : decode cX7_endsAhead 12 = .ok (.invokevirtual 24, 3) := by decide +kernel
theorem dX7_endsAhead_15 : decode cX7_endsAhead 15 = .ok (.astore_n 3, 1) := by decide +kernel
theorem dX7_endsAhead_16 : decode cX7_endsAhead 16 = .ok (.aload_n 3, 1) := by decide +kernel
theorem dX7_endsAhead_17 : decode cX7_endsAhead 17 = .ok (.ifnull 23, 3) := by decide +kernel
theorem dX7_endsAhead_20 : decode cX7_endsAhead 20 = .ok (.aload_n 3, 1) := by decide +kernel
theorem dX7_endsAhead_21 : decode cX7_endsAhead 21 = .ok (.getfield 28, 3) := by decide +kernel
theorem dX7_endsAhead_24 : decode cX7_endsAhead 24 = .ok (.getstatic 53, 3) := by decide +kernel
theorem dX7_endsAhead_27 : decode cX7_endsAhead 27 = .ok (.if_acmp .ne 13, 3) := by decide +kernel
theorem dX7_endsAhead_30 : decode cX7_endsAhead 30 = .ok (.aload_n 3, 1) := by decide +kernel
theorem dX7_endsAhead_31 : decode cX7_endsAhead 31 = .ok (.getfield 56, 3) := by decide +kernel
theorem dX7_endsAhead_34 : decode cX7_endsAhead 34 = .ok (.iload_n 1, 1) := by decide +kernel
theorem dX7_endsAhead_35 : decode cX7_endsAhead 35 = .ok (.if_icmp .ne 5, 3) := by decide +kernel
theorem dX7_endsAhead_38 : decode cX7_endsAhead 38 = .ok (.iconst 1, 1) := by decide +kernel
theorem dX7_endsAhead_39 : decode cX7_endsAhead 39 = .ok (.ireturn, 1) := by decide +kernel
theorem dX7_endsAhead_40 : decode cX7_endsAhead 40 = .ok (.iinc 2 1, 3) := by decide +kernel
theorem dX7_endsAhead_43 : decode cX7_endsAhead 43 = .ok (.goto (-41), 3) := by decide +kernel
theorem dX7_endsAhead_46 : decode cX7_endsAhead 46 = .ok (.iconst 0, 1) := by decide +kernel
theorem dX7_endsAhead_47 : decode cX7_endsAhead 47 = .ok (.ireturn, 1) := by decide +kernel
def pX7_endsAhead_b40 (E : EC) (g : MT) (h : CT) (this : Nat) (p1 : Int32) (k2 : Int32 → Option Int32) (l2 : Int32) : Option Int32 := lt (l2 + 1) fun x1 => (k2 x1)
set_option maxRecDepth 10000 in
set_option maxHeartbeats 4000000 in
theorem pX7_endsAhead_b40_ok {X : Cx} {G : Gx} {dk : Nat} {g : MT} {r0 : Int32} {h : CT} {this : Nat} {p1 : Int32} {k2 : Int32 → Option Int32} (Z : Zx X G cX7_endsAhead RX7 4 dk (some .boolean) (some (.int r0)) g h) (hK : 1 ≤ dk) {E : EC} (hE : G.2.2.2 = E) (t0 : gT g this = 6) (hk2 : ∀ (l2 : Int32), k2 l2 = some r0 → J X g h 2 [(0, va_rf (some this)), (1, .int p1), (2, .int l2)] []) (l2 : Int32) (hf : pX7_endsAhead_b40 E g h this p1 k2 l2 = some r0) : J X g h 40 [(0, va_rf (some this)), (1, .int p1), (2, .int l2)] [] := by
  unfold pX7_endsAhead_b40 at hf
  refine J_iinc Z.1 (v := 1) (lv2 := [(2, .int (l2 + 1)), (0, va_rf (some this)), (1, .int p1)]) 2 dX7_endsAhead_40 rfl (by decide) (zL Z (by decide)) rfl ?_
  obtain ⟨x1, ex1⟩ : ∃ z, z = (l2 + 1) := ⟨_, rfl⟩
  replace hf := lt_i hf x1 ex1
  rw [← ex1]
  refine J_goto Z.1 2 dX7_endsAhead_43 (by decide) ?_
  refine J_lv [1, 2, 0] rfl ?_
  exact hk2 _ hf
def pX7_endsAhead_b2 (E : EC) (g : MT) (h : CT) (this : Nat) (p1 : Int32) (k2 : Int32 → Option Int32) (l2 : Int32) : Option Int32 := if (hI h this 1) ≤ l2 then some 0 else bd (pX7_at g h this l2) fun r2 => (if r2 = none then pX7_endsAhead_b40 E g h this p1 k2 l2 else nn r2 fun a2 => (tg g a2 2 (lt (hR h a2 0) fun r6 => (kR (E.1 30) fun a7 => (if r6 = (some a7) then if (hI h a2 9) = p1 then some 1 else pX7_endsAhead_b40 E g h this p1 k2 l2 else pX7_endsAhead_b40 E g h this p1 k2 l2)))))
set_option maxRecDepth 10000 in
set_option maxHeartbeats 4000000 in
theorem pX7_endsAhead_b2_ok {X : Cx} {G : Gx} {dk : Nat} {g : MT} {r0 : Int32} {h : CT} {this : Nat} {p1 : Int32} {k2 : Int32 → Option Int32} (Z : Zx X G cX7_endsAhead RX7 4 dk (some .boolean) (some (.int r0)) g h) (hK : 1 ≤ dk) {E : EC} (hE : G.2.2.2 = E) (t0 : gT g this = 6) (hk2 : ∀ (l2 : Int32), k2 l2 = some r0 → J X g h 2 [(0, va_rf (some this)), (1, .int p1), (2, .int l2)] []) (l2 : Int32) (hf : pX7_endsAhead_b2 E g h this p1 k2 l2 = some r0) : J X g h 2 [(0, va_rf (some this)), (1, .int p1), (2, .int l2)] [] := by
  unfold pX7_endsAhead_b2 at hf
  refine J_iload_n Z.1 2 dX7_endsAhead_2 rfl rfl ?_
  refine J_aload_n Z.1 0 dX7_endsAhead_3 rfl rfl ?_
  refine J_get (v := .int (hI h this 1)) Z.1 dX7_endsAhead_4 fl_X7_20 t0 rfl ?_
  refine J_icmp_ge Z.1 46 dX7_endsAhead_7 (by decide) (fun c1 => ?_) (fun c1 => ?_)
  · rw [if_pos c1] at hf
    refine J_iconst Z.1 (v := 0) (by decide) dX7_endsAhead_46 ?_
    cases hf
    exact J_zret Z.1 Z.2.2.2.2.2 (z_n (Or.inl rfl)) dX7_endsAhead_47
  · rw [if_neg c1] at hf
    refine J_aload_n Z.1 0 dX7_endsAhead_10 rfl rfl ?_
    refine J_iload_n Z.1 2 dX7_endsAhead_11 rfl rfl ?_
    replace hf := bd_i hf
    obtain ⟨r2, q3, hf⟩ := hf
    refine J_callV (ci := 5) (as := [.int l2]) (rest := []) (sy := [va_rf r2]) Z.1 dX7_endsAhead_12 cw_X7_24 (pX7_at_ok G (dk - 1) (by omega) q3) rfl rfl t0 (zG Z) rfl (by decide) (zF Z (by omega)) (zO Z (by omega) (by decide)) (zM _) Z.2.1 Z.2.1 rfl rfl ?_
    refine J_astore_n Z.1 (lv2 := [(3, va_rf r2), (0, va_rf (some this)), (1, .int p1), (2, .int l2)]) dX7_endsAhead_15 rfl (zL Z (by decide)) rfl ?_
    refine J_aload_n Z.1 0 dX7_endsAhead_16 rfl rfl ?_
    refine J_ifnull Z.1 40 dX7_endsAhead_17 (by decide) (fun c4 => ?_) (fun c4 => ?_)
    · rw [if_pos c4] at hf
      refine J_lv [1, 2, 3] rfl ?_
      exact pX7_endsAhead_b40_ok Z hK hE t0 hk2 _ hf
    · rw [if_neg c4] at hf
      refine J_aload_n Z.1 0 dX7_endsAhead_20 rfl rfl ?_
      replace hf := nn_i hf
      obtain ⟨a2, rfl, hf⟩ := hf
      replace hf := tg_i hf
      obtain ⟨t5, hf⟩ := hf
      refine J_get (v := va_rf (hR h a2 0)) Z.1 dX7_endsAhead_21 fl_X7_28 t5 rfl ?_
      refine J_tr (fun r6 er6 => ?_)
      replace hf := lt_i hf r6 er6
      replace hf := kR_i hf
      obtain ⟨a7, ea7, hf⟩ := hf
      refine J_gets (i := 30) (v := va_rf (some a7)) Z.1 dX7_endsAhead_24 rfl q_1368 (zEv Z hE ea7) rfl ?_
      refine J_acmp_ne Z.1 40 dX7_endsAhead_27 (by decide) (fun c8 => ?_) (fun c8 => ?_)
      · rw [if_neg c8] at hf
        refine J_lv [1, 2, 3] rfl ?_
        exact pX7_endsAhead_b40_ok Z hK hE t0 hk2 _ hf
      · rw [if_pos c8] at hf
        refine J_aload_n Z.1 0 dX7_endsAhead_30 rfl rfl ?_
        refine J_get (v := .int (hI h a2 9)) Z.1 dX7_endsAhead_31 fl_X7_56 t5 rfl ?_
        refine J_iload_n Z.1 2 dX7_endsAhead_34 rfl rfl ?_
        refine J_icmp_ne Z.1 40 dX7_endsAhead_35 (by decide) (fun c9 => ?_) (fun c9 => ?_)
        · rw [if_neg c9] at hf
          refine J_lv [1, 2, 3] rfl ?_
          exact pX7_endsAhead_b40_ok Z hK hE t0 hk2 _ hf
        · rw [if_pos c9] at hf
          refine J_iconst Z.1 (v := 1) (by decide) dX7_endsAhead_38 ?_
          cases hf
          exact J_zret Z.1 Z.2.2.2.2.2 (z_n (Or.inr rfl)) dX7_endsAhead_39
def pX7_endsAhead_l2 (E : EC) (g : MT) (h : CT) (this : Nat) (p1 : Int32) : Nat → Int32 → Option Int32
  | 0, _ => none
  | n + 1, l2 => pX7_endsAhead_b2 E g h this p1 (pX7_endsAhead_l2 E g h this p1 n) l2
theorem pX7_endsAhead_l2_ok {X : Cx} {G : Gx} {dk : Nat} {g : MT} {r0 : Int32} {h : CT} {this : Nat} {p1 : Int32} (Z : Zx X G cX7_endsAhead RX7 4 dk (some .boolean) (some (.int r0)) g h) (hK : 1 ≤ dk) {E : EC} (hE : G.2.2.2 = E) (t0 : gT g this = 6) : ∀ (n : Nat) (l2 : Int32), pX7_endsAhead_l2 E g h this p1 n l2 = some r0 → J X g h 2 [(0, va_rf (some this)), (1, .int p1), (2, .int l2)] [] := by
  intro n
  induction n with
  | zero => intro l2 hf; cases hf
  | succ n ih => intro l2 hf; exact pX7_endsAhead_b2_ok Z hK hE t0 ih l2 hf
def pX7_endsAhead (E : EC) (g : MT) (h : CT) (this : Nat) (p1 : Int32) : Option Int32 := tg g this 6 (pX7_endsAhead_l2 E g h this p1  FUEL 0)
set_option maxRecDepth 10000 in
set_option maxHeartbeats 4000000 in
theorem pX7_endsAhead_ok (G : Gx) (dk : Nat) (hK : 1 ≤ dk) {g : MT} {E : EC} (hE : G.2.2.2 = E) {h : CT} {this : Nat} {p1 : Int32} {r0 : Int32} (hf : pX7_endsAhead E g h this p1 = some r0) : Ctr G dk yX7_endsAhead cX7_endsAhead 4 (some .boolean) [va_rf (some this), .int p1] g h (some (.int r0)) g h := by
  refine Ctr.ofZ (lv := [(0, va_rf (some this)), (1, .int p1)]) (by decide +kernel) (by simp [cat_i, cat_l, cat_d, cat_rf]) rfl fun X Z => ?_
  unfold pX7_endsAhead at hf
  replace hf := tg_i hf
  obtain ⟨t0, hf⟩ := hf
  refine J_iconst Z.1 (v := 0) (by decide) dX7_endsAhead_0 ?_
  refine J_istore_n Z.1 (lv2 := [(2, .int 0), (0, va_rf (some this)), (1, .int p1)]) dX7_endsAhead_1 rfl (zL Z (by decide)) rfl ?_
  refine J_lv [1, 2, 0] rfl ?_
  exact pX7_endsAhead_l2_ok Z hK hE t0  FUEL _ hf
theorem dX10_init_0 : decode cX10_init 0 = .ok (.aload_n 0, 1) := by decide +kernel
theorem dX10_init_1 : decode cX10_init 1 = .ok (.invokespecial 3, 3) := by decide +kernel
theorem dX10_init_4 : decode cX10_init 4 = .ok (.aload_n 0, 1) := by decide +kernel
theorem dX10_init_5 : decode cX10_init 5 = .ok (.bipush 30, 2) := by decide +kernel
theorem dX10_init_7 : decode cX10_init 7 = .ok (.newarray .int, 2) := by decide +kernel
theorem dX10_init_9 : decode cX10_init 9 = .ok (.putfield 9, 3) := by decide +kernel
theorem dX10_init_12 : decode cX10_init 12 = .ok (.aload_n 0, 1) := by decide +kernel
theorem dX10_init_13 : decode cX10_init 13 = .ok (.bipush 30, 2) := by decide +kernel
theorem dX10_init_15 : decode cX10_init 15 = .ok (.newarray .int, 2) := by decide +kernel
theorem dX10_init_17 : decode cX10_init 17 = .ok (.putfield 15, 3) := by decide +kernel
theorem dX10_init_20 : decode cX10_init 20 = .ok (.aload_n 0, 1) := by decide +kernel
theorem dX10_init_21 : decode cX10_init 21 = .ok (.getstatic 18, 3) := by decide +kernel
theorem dX10_init_24 : decode cX10_init 24 = .ok (.arraylength, 1) := by decide +kernel
theorem dX10_init_25 : decode cX10_init 25 = .ok (.newarray .int, 2) := by decide +kernel
theorem dX10_init_27 : decode cX10_init 27 = .ok (.putfield 21, 3) := by decide +kernel
theorem dX10_init_30 : decode cX10_init 30 = .ok (.aload_n 0, 1) := by decide +kernel
theorem dX10_init_31 : decode cX10_init 31 = .ok (.bipush 96, 2) := by decide +kernel
theorem dX10_init_33 : decode cX10_init 33 = .ok (.newarray .int, 2) := by decide +kernel
theorem dX10_init_35 : decode cX10_init 35 = .ok (.putfield 24, 3) := by decide +kernel
theorem dX10_init_38 : decode cX10_init 38 = .ok (.aload_n 0, 1) := by decide +kernel
theorem dX10_init_39 : decode cX10_init 39 = .ok (.bipush 96, 2) := by decide +kernel
theorem dX10_init_41 : decode cX10_init 41 = .ok (.newarray .int, 2) := by decide +kernel
theorem dX10_init_43 : decode cX10_init 43 = .ok (.putfield 27, 3) := by decide +kernel
theorem dX10_init_46 : decode cX10_init 46 = .ok (.aload_n 0, 1) := by decide +kernel
theorem dX10_init_47 : decode cX10_init 47 = .ok (.bipush 16, 2) := by decide +kernel
theorem dX10_init_49 : decode cX10_init 49 = .ok (.newarray .int, 2) := by decide +kernel
theorem dX10_init_51 : decode cX10_init 51 = .ok (.putfield 30, 3) := by decide +kernel
theorem dX10_init_54 : decode cX10_init 54 = .ok (.return_, 1) := by decide +kernel
def pX10_init (E : EC) (g : MT) (h : CT) (this : Nat) : Option (MT × CT) := gq Prod.fst g (gq Prod.fst (gA g 20 30) (lt (gA g 20 30) fun g1 => (lt (hZ h (gN g)) fun h2 => (lt (gN g) fun a3 => (tg g1 this 9 (lt (sR h2 this 6 (some a3)) fun h7 => (gq Prod.fst (gA g1 20 30) (lt (gA g1 20 30) fun g8 => (lt (hZ h7 (gN g1)) fun h9 => (lt (gN g1) fun a10 => (tg g8 this 9 (lt (sR h9 this 7 (some a10)) fun h14 => (kR (E.1 0) fun a15 => (tg E.2.2 a15 20 (na (Int32.ofNat (gL E.2.2 a15)) (gq Prod.fst (gA g8 20 (Int32.toNatClampNeg (Int32.ofNat (gL E.2.2 a15)))) (lt (gA g8 20 (Int32.toNatClampNeg (Int32.ofNat (gL E.2.2 a15)))) fun g17 => (lt (hZ h14 (gN g8)) fun h18 => (lt (gN g8) fun a19 => (tg g17 this 9 (lt (sR h18 this 13 (some a19)) fun h24 => (gq Prod.fst (gA g17 20 96) (lt (gA g17 20 96) fun g25 => (lt (hZ h24 (gN g17)) fun h26 => (lt (gN g17) fun a27 => (tg g25 this 9 (lt (sR h26 this 14 (some a27)) fun h31 => (gq Prod.fst (gA g25 20 96) (lt (gA g25 20 96) fun g32 => (lt (hZ h31 (gN g25)) fun h33 => (lt (gN g25) fun a34 => (tg g32 this 9 (lt (sR h33 this 15 (some a34)) fun h38 => (gq Prod.fst (gA g32 20 16) (lt (gA g32 20 16) fun g39 => (lt (hZ h38 (gN g32)) fun h40 => (lt (gN g32) fun a41 => (tg g39 this 9 (lt (sR h40 this 16 (some a41)) fun h45 => (some (g39, h45)))))))))))))))))))))))))))))))))))))))))
theorem pX10_init_mono {E : EC} {g g0 : MT} {h h0 : CT} {this : Nat} (hf : pX10_init E g h this = some (g0, h0)) : gN g ≤ gN g0 ∧ gU g ≤ gU g0 := by
  unfold pX10_init at hf
  exact (gq_i hf).1
set_option maxRecDepth 10000 in
set_option maxHeartbeats 4000000 in
theorem pX10_init_ok (G : Gx) (dk : Nat) (hK : 1 ≤ dk) {E : EC} (hE : G.2.2.2 = E) {g g0 : MT} {h h0 : CT} {this : Nat} (hf : pX10_init E g h this = some (g0, h0)) : Ctr G dk yX10_init cX10_init 1 none [va_rf (some this)] g h none g0 h0 := by
  unfold pX10_init at hf
  replace hf := gq_i hf
  obtain ⟨hm, hf⟩ := hf
  refine Ctr.ofY (lv := [(0, va_rf (some this))]) (by decide +kernel) (by simp [cat_i, cat_l, cat_d, cat_rf]) rfl hm fun X Z M => ?_
  refine J_aload_n Z.1 0 dX10_init_0 rfl rfl ?_
  refine J_objInit Z.1 dX10_init_1 q_418 q_168 q_169 (yO2 Z (by omega) (by simp [cat_i, cat_l, cat_d, cat_rf])) (yF Z (d := 0) (by omega)) ?_
  refine J_aload_n Z.1 0 dX10_init_4 rfl rfl ?_
  refine J_bipush Z.1 (v := 30) (by decide) dX10_init_5 ?_
  replace hf := gq_i hf
  obtain ⟨n4, hf⟩ := hf
  have M5 := rmA Z M n4
  refine J_newa (t := 0) (N := 30) .int Z.1 dX10_init_7 rfl rfl (by decide) (fun _ q => by cases q) q_485 (by decide) (by decide) (by decide) M M5 ?_
  refine J_tg (fun g1 eg1 => ?_)
  rw [← eg1] at M5
  replace hf := lt_i hf g1 eg1
  refine J_th (fun h2 eh2 => ?_)
  replace hf := lt_i hf h2 eh2
  refine J_ta (fun a3 ea3 => ?_)
  replace hf := lt_i hf a3 ea3
  replace hf := tg_i hf
  obtain ⟨t6, hf⟩ := hf
  refine J_putR Z.1 dX10_init_9 fl_X10_9 (fun _ => ⟨Z.2.2.2.2.2.2.2, _, rfl, rfl⟩) t6 (Or.inr ⟨_, rfl⟩) ?_
  refine J_th (fun h7 eh7 => ?_)
  replace hf := lt_i hf h7 eh7
  refine J_aload_n Z.1 0 dX10_init_12 rfl rfl ?_
  refine J_bipush Z.1 (v := 30) (by decide) dX10_init_13 ?_
  replace hf := gq_i hf
  obtain ⟨n11, hf⟩ := hf
  have M12 := rmA Z M5 n11
  refine J_newa (t := 0) (N := 30) .int Z.1 dX10_init_15 rfl rfl (by decide) (fun _ q => by cases q) q_485 (by decide) (by decide) (by decide) M5 M12 ?_
  refine J_tg (fun g8 eg8 => ?_)
  rw [← eg8] at M12
  replace hf := lt_i hf g8 eg8
  refine J_th (fun h9 eh9 => ?_)
  replace hf := lt_i hf h9 eh9
  refine J_ta (fun a10 ea10 => ?_)
  replace hf := lt_i hf a10 ea10
  replace hf := tg_i hf
  obtain ⟨t13, hf⟩ := hf
  refine J_putR Z.1 dX10_init_17 fl_X10_15 (fun _ => ⟨Z.2.2.2.2.2.2.2, _, rfl, rfl⟩) t13 (Or.inr ⟨_, rfl⟩) ?_
  refine J_th (fun h14 eh14 => ?_)
  replace hf := lt_i hf h14 eh14
  refine J_aload_n Z.1 0 dX10_init_20 rfl rfl ?_
  replace hf := kR_i hf
  obtain ⟨a15, ea15, hf⟩ := hf
  refine J_getsN (i := 0) (v := va_rf (some a15)) Z.1 dX10_init_21 rfl (kn1 Z.1) (yEv Z hE ea15) rfl ?_
  replace hf := tg_i hf
  obtain ⟨t16, hf⟩ := hf
  rw [← yE Z hE] at t16
  refine J_alenK (t := 0) Z.1 dX10_init_24 t16 rfl ?_
  rw [yE Z hE]
  replace hf := na_i hf
  obtain ⟨z22, hf⟩ := hf
  replace hf := gq_i hf
  obtain ⟨n20, hf⟩ := hf
  have M21 := rmA Z M12 n20
  refine J_newa (t := 0) (N := (Int32.toNatClampNeg (Int32.ofNat (gL E.2.2 a15)))) .int Z.1 dX10_init_25 rfl rfl (by decide) (fun _ q => by cases q) q_485 z22.1 rfl (naB z22.2 (by decide)) M12 M21 ?_
  refine J_tg (fun g17 eg17 => ?_)
  rw [← eg17] at M21
  replace hf := lt_i hf g17 eg17
  refine J_th (fun h18 eh18 => ?_)
  replace hf := lt_i hf h18 eh18
  refine J_ta (fun a19 ea19 => ?_)
  replace hf := lt_i hf a19 ea19
  replace hf := tg_i hf
  obtain ⟨t23, hf⟩ := hf
  refine J_putR Z.1 dX10_init_27 fl_X10_21 (fun _ => ⟨Z.2.2.2.2.2.2.2, _, rfl, rfl⟩) t23 (Or.inr ⟨_, rfl⟩) ?_
  refine J_th (fun h24 eh24 => ?_)
  replace hf := lt_i hf h24 eh24
  refine J_aload_n Z.1 0 dX10_init_30 rfl rfl ?_
  refine J_bipush Z.1 (v := 96) (by decide) dX10_init_31 ?_
  replace hf := gq_i hf
  obtain ⟨n28, hf⟩ := hf
  have M29 := rmA Z M21 n28
  refine J_newa (t := 0) (N := 96) .int Z.1 dX10_init_33 rfl rfl (by decide) (fun _ q => by cases q) q_485 (by decide) (by decide) (by decide) M21 M29 ?_
  refine J_tg (fun g25 eg25 => ?_)
  rw [← eg25] at M29
  replace hf := lt_i hf g25 eg25
  refine J_th (fun h26 eh26 => ?_)
  replace hf := lt_i hf h26 eh26
  refine J_ta (fun a27 ea27 => ?_)
  replace hf := lt_i hf a27 ea27
  replace hf := tg_i hf
  obtain ⟨t30, hf⟩ := hf
  refine J_putR Z.1 dX10_init_35 fl_X10_24 (fun _ => ⟨Z.2.2.2.2.2.2.2, _, rfl, rfl⟩) t30 (Or.inr ⟨_, rfl⟩) ?_
  refine J_th (fun h31 eh31 => ?_)
  replace hf := lt_i hf h31 eh31
  refine J_aload_n Z.1 0 dX10_init_38 rfl rfl ?_
  refine J_bipush Z.1 (v := 96) (by decide) dX10_init_39 ?_
  replace hf := gq_i hf
  obtain ⟨n35, hf⟩ := hf
  have M36 := rmA Z M29 n35
  refine J_newa (t := 0) (N := 96) .int Z.1 dX10_init_41 rfl rfl (by decide) (fun _ q => by cases q) q_485 (by decide) (by decide) (by decide) M29 M36 ?_
  refine J_tg (fun g32 eg32 => ?_)
  rw [← eg32] at M36
  replace hf := lt_i hf g32 eg32
  refine J_th (fun h33 eh33 => ?_)
  replace hf := lt_i hf h33 eh33
  refine J_ta (fun a34 ea34 => ?_)
  replace hf := lt_i hf a34 ea34
  replace hf := tg_i hf
  obtain ⟨t37, hf⟩ := hf
  refine J_putR Z.1 dX10_init_43 fl_X10_27 (fun _ => ⟨Z.2.2.2.2.2.2.2, _, rfl, rfl⟩) t37 (Or.inr ⟨_, rfl⟩) ?_
  refine J_th (fun h38 eh38 => ?_)
  replace hf := lt_i hf h38 eh38
  refine J_aload_n Z.1 0 dX10_init_46 rfl rfl ?_
  refine J_bipush Z.1 (v := 16) (by decide) dX10_init_47 ?_
  replace hf := gq_i hf
  obtain ⟨n42, hf⟩ := hf
  have M43 := rmA Z M36 n42
  refine J_newa (t := 0) (N := 16) .int Z.1 dX10_init_49 rfl rfl (by decide) (fun _ q => by cases q) q_485 (by decide) (by decide) (by decide) M36 M43 ?_
  refine J_tg (fun g39 eg39 => ?_)
  rw [← eg39] at M43
  replace hf := lt_i hf g39 eg39
  refine J_th (fun h40 eh40 => ?_)
  replace hf := lt_i hf h40 eh40
  refine J_ta (fun a41 ea41 => ?_)
  replace hf := lt_i hf a41 ea41
  replace hf := tg_i hf
  obtain ⟨t44, hf⟩ := hf
  refine J_putR Z.1 dX10_init_51 fl_X10_30 (fun _ => ⟨Z.2.2.2.2.2.2.2, _, rfl, rfl⟩) t44 (Or.inr ⟨_, rfl⟩) ?_
  refine J_th (fun h45 eh45 => ?_)
  replace hf := lt_i hf h45 eh45
  cases hf
  exact J_vret Z.1 Z.2.2.2.2.1 dX10_init_54
theorem dX10_clear_0 : decode cX10_clear 0 = .ok (.aload_n 0, 1) := by decide +kernel
theorem dX10_clear_1 : decode cX10_clear 1 = .ok (.iconst 0, 1) := by decide +kernel
theorem dX10_clear_2 : decode cX10_clear 2 = .ok (.putfield 33, 3) := by decide +kernel
theorem dX10_clear_5 : decode cX10_clear 5 = .ok (.aload_n 0, 1) := by decide +kernel
theorem dX10_clear_6 : decode cX10_clear 6 = .ok (.iconst 0, 1) := by decide +kernel
theorem dX10_clear_7 : decode cX10_clear 7 = .ok (.putfield 37, 3) := by decide +kernel
theorem dX10_clear_10 : decode cX10_clear 10 = .ok (.aload_n 0, 1) := by decide +kernel
theorem dX10_clear_11 : decode cX10_clear 11 = .ok (.iconst 0, 1) := by decide +kernel
theorem dX10_clear_12 : decode cX10_clear 12 = .ok (.putfield 40, 3) := by decide +kernel
theorem dX10_clear_15 : decode cX10_clear 15 = .ok (.aload_n 0, 1) := by decide +kernel
theorem dX10_clear_16 : decode cX10_clear 16 = .ok (.iconst 0, 1) := by decide +kernel
theorem dX10_clear_17 : decode cX10_clear 17 = .ok (.putfield 43, 3) := by decide +kernel
theorem dX10_clear_20 : decode cX10_clear 20 = .ok (.aload_n 0, 1) := by decide +kernel
theorem dX10_clear_21 : decode cX10_clear 21 = .ok (.iconst (-1), 1) := by decide +kernel
theorem dX10_clear_22 : decode cX10_clear 22 = .ok (.putfield 46, 3) := by decide +kernel
theorem dX10_clear_25 : decode cX10_clear 25 = .ok (.aload_n 0, 1) := by decide +kernel
theorem dX10_clear_26 : decode cX10_clear 26 = .ok (.iconst (-1), 1) := by decide +kernel
theorem dX10_clear_27 : decode cX10_clear 27 = .ok (.putfield 49, 3) := by decide +kernel
theorem dX10_clear_30 : decode cX10_clear 30 = .ok (.aload_n 0, 1) := by decide +kernel
theorem dX10_clear_31 : decode cX10_clear 31 = .ok (.iconst (-1), 1) := by decide +kernel
theorem dX10_clear_32 : decode cX10_clear 32 = .ok (.putfield 52, 3) := by decide +kernel
theorem dX10_clear_35 : decode cX10_clear 35 = .ok (.aload_n 0, 1) := by decide +kernel
theorem dX10_clear_36 : decode cX10_clear 36 = .ok (.iconst 0, 1) := by decide +kernel
theorem dX10_clear_37 : decode cX10_clear 37 = .ok (.putfield 55, 3) := by decide +kernel
theorem dX10_clear_40 : decode cX10_clear 40 = .ok (.aload_n 0, 1) := by decide +kernel
theorem dX10_clear_41 : decode cX10_clear 41 = .ok (.iconst 0, 1) := by decide +kernel
theorem dX10_clear_42 : decode cX10_clear 42 = .ok (.putfield 58, 3) := by decide +kernel
theorem dX10_clear_45 : decode cX10_clear 45 = .ok (.aload_n 0, 1) := by decide +kernel
theorem dX10_clear_46 : decode cX10_clear 46 = .ok (.iconst 0, 1) := by decide +kernel
theorem dX10_clear_47 : decode cX10_clear 47 = .ok (.putfield 61, 3) := by decide +kernel
theorem dX10_clear_50 : decode cX10_clear 50 = .ok (.aload_n 0, 1) := by decide +kernel
theorem dX10_clear_51 : decode cX10_clear 51 = .ok (.iconst 0, 1) := by decide +kernel
theorem dX10_clear_52 : decode cX10_clear 52 = .ok (.putfield 64, 3) := by decide +kernel
theorem dX10_clear_55 : decode cX10_clear 55 = .ok (.aload_n 0, 1) := by decide +kernel
theorem dX10_clear_56 : decode cX10_clear 56 = .ok (.getfield 9, 3) := by decide +kernel
theorem dX10_clear_59 : decode cX10_clear 59 = .ok (.iconst (-1), 1) := by decide +kernel
theorem dX10_clear_60 : decode cX10_clear 60 = .ok (.invokestatic 67, 3) := by decide +kernel
theorem dX10_clear_63 : decode cX10_clear 63 = .ok (.aload_n 0, 1) := by decide +kernel
theorem dX10_clear_64 : decode cX10_clear 64 = .ok (.getfield 15, 3) := by decide +kernel
theorem dX10_clear_67 : decode cX10_clear 67 = .ok (.iconst (-1), 1) := by decide +kernel
theorem dX10_clear_68 : decode cX10_clear 68 = .ok (.invokestatic 67, 3) := by decide +kernel
theorem dX10_clear_71 : decode cX10_clear 71 = .ok (.aload_n 0, 1) := by decide +kernel
theorem dX10_clear_72 : decode cX10_clear 72 = .ok (.getfield 21, 3) := by decide +kernel
theorem dX10_clear_75 : decode cX10_clear 75 = .ok (.iconst 0, 1) := by decide +kernel
theorem dX10_clear_76 : decode cX10_clear 76 = .ok (.invokestatic 67, 3) := by decide +kernel
theorem dX10_clear_79 : decode cX10_clear 79 = .ok (.aload_n 0, 1) := by decide +kernel
theorem dX10_clear_80 : decode cX10_clear 80 = .ok (.getfield 24, 3) := by decide +kernel
theorem dX10_clear_83 : decode cX10_clear 83 = .ok (.iconst 0, 1) := by decide +kernel
theorem dX10_clear_84 : decode cX10_clear 84 = .ok (.invokestatic 67, 3) := by decide +kernel
theorem dX10_clear_87 : decode cX10_clear 87 = .ok (.aload_n 0, 1) := by decide +kernel
theorem dX10_clear_88 : decode cX10_clear 88 = .ok (.getfield 27, 3) := by decide +kernel
theorem dX10_clear_91 : decode cX10_clear 91 = .ok (.iconst 0, 1) := by decide +kernel
theorem dX10_clear_92 : decode cX10_clear 92 = .ok (.invokestatic 67, 3) := by decide +kernel
theorem dX10_clear_95 : decode cX10_clear 95 = .ok (.aload_n 0, 1) := by decide +kernel
theorem dX10_clear_96 : decode cX10_clear 96 = .ok (.getfield 30, 3) := by decide +kernel
theorem dX10_clear_99 : decode cX10_clear 99 = .ok (.iconst 0, 1) := by decide +kernel
theorem dX10_clear_100 : decode cX10_clear 100 = .ok (.invokestatic 67, 3) := by decide +kernel
theorem dX10_clear_103 : decode cX10_clear 103 = .ok (.return_, 1) := by decide +kernel
def pX10_clear (g : MT) (h : CT) (this : Nat) : Option CT := tg g this 9 (lt (sI h this 0 0) fun h1 => (lt (sI h1 this 1 0) fun h2 => (lt (sI h2 this 2 0) fun h3 => (lt (sI h3 this 3 0) fun h4 => (lt (sI h4 this 4 (-1)) fun h5 => (lt (sI h5 this 5 (-1)) fun h6 => (lt (sI h6 this 8 (-1)) fun h7 => (lt (sI h7 this 9 0) fun h8 => (lt (sI h8 this 10 0) fun h9 => (lt (sI h9 this 11 0) fun h10 => (lt (sI h10 this 12 0) fun h11 => (lt (hR h11 this 6) fun r12 => (nn r12 fun a12 => (bd (pJ7_fill_53178 g h11 a12 (-1)) fun h13 => (lt (hR h13 this 7) fun r15 => (nn r15 fun a15 => (bd (pJ7_fill_53178 g h13 a15 (-1)) fun h16 => (lt (hR h16 this 13) fun r18 => (nn r18 fun a18 => (bd (pJ7_fill_53178 g h16 a18 0) fun h19 => (lt (hR h19 this 14) fun r21 => (nn r21 fun a21 => (bd (pJ7_fill_53178 g h19 a21 0) fun h22 => (lt (hR h22 this 15) fun r24 => (nn r24 fun a24 => (bd (pJ7_fill_53178 g h22 a24 0) fun h25 => (lt (hR h25 this 16) fun r27 => (nn r27 fun a27 => (bd (pJ7_fill_53178 g h25 a27 0) fun h28 => (some h28))))))))))))))))))))))))))))))
set_option maxRecDepth 10000 in
set_option maxHeartbeats 4000000 in
theorem pX10_clear_ok (G : Gx) (dk : Nat) (hK : 1 ≤ dk) {g : MT} {h h0 : CT} {this : Nat} (hf : pX10_clear g h this = some h0) : Ctr G dk yX10_clear cX10_clear 1 none [va_rf (some this)] g h none g h0 := by
  refine Ctr.ofZ (lv := [(0, va_rf (some this))]) (by decide +kernel) (by simp [cat_i, cat_l, cat_d, cat_rf]) rfl fun X Z => ?_
  unfold pX10_clear at hf
  replace hf := tg_i hf
  obtain ⟨t0, hf⟩ := hf
  refine J_aload_n Z.1 0 dX10_clear_0 rfl rfl ?_
  refine J_iconst Z.1 (v := 0) (by decide) dX10_clear_1 ?_
  refine J_putI Z.1 dX10_clear_2 fl_X10_33 (fun q => by cases q) t0 rfl rfl (congrArg Value.int (hI_s _ _ _ _)) ?_
  refine J_th (fun h1 eh1 => ?_)
  replace hf := lt_i hf h1 eh1
  refine J_aload_n Z.1 0 dX10_clear_5 rfl rfl ?_
  refine J_iconst Z.1 (v := 0) (by decide) dX10_clear_6 ?_
  refine J_putI Z.1 dX10_clear_7 fl_X10_37 (fun q => by cases q) t0 rfl rfl (congrArg Value.int (hI_s _ _ _ _)) ?_
  refine J_th (fun h2 eh2 => ?_)
  replace hf := lt_i hf h2 eh2
  refine J_aload_n Z.1 0 dX10_clear_10 rfl rfl ?_
  refine J_iconst Z.1 (v := 0) (by decide) dX10_clear_11 ?_
  refine J_putI Z.1 dX10_clear_12 fl_X10_40 (fun q => by cases q) t0 rfl rfl (congrArg Value.int (hI_s _ _ _ _)) ?_
  refine J_th (fun h3 eh3 => ?_)
  replace hf := lt_i hf h3 eh3
  refine J_aload_n Z.1 0 dX10_clear_15 rfl rfl ?_
  refine J_iconst Z.1 (v := 0) (by decide) dX10_clear_16 ?_
  refine J_putI Z.1 dX10_clear_17 fl_X10_43 (fun q => by cases q) t0 rfl rfl (congrArg Value.int (hI_s _ _ _ _)) ?_
  refine J_th (fun h4 eh4 => ?_)
  replace hf := lt_i hf h4 eh4
  refine J_aload_n Z.1 0 dX10_clear_20 rfl rfl ?_
  refine J_iconst Z.1 (v := (-1)) (by decide) dX10_clear_21 ?_
  refine J_putI Z.1 dX10_clear_22 fl_X10_46 (fun q => by cases q) t0 rfl rfl (congrArg Value.int (hI_s _ _ _ _)) ?_
  refine J_th (fun h5 eh5 => ?_)
  replace hf := lt_i hf h5 eh5
  refine J_aload_n Z.1 0 dX10_clear_25 rfl rfl ?_
  refine J_iconst Z.1 (v := (-1)) (by decide) dX10_clear_26 ?_
  refine J_putI Z.1 dX10_clear_27 fl_X10_49 (fun q => by cases q) t0 rfl rfl (congrArg Value.int (hI_s _ _ _ _)) ?_
  refine J_th (fun h6 eh6 => ?_)
  replace hf := lt_i hf h6 eh6
  refine J_aload_n Z.1 0 dX10_clear_30 rfl rfl ?_
  refine J_iconst Z.1 (v := (-1)) (by decide) dX10_clear_31 ?_
  refine J_putI Z.1 dX10_clear_32 fl_X10_52 (fun q => by cases q) t0 rfl rfl (congrArg Value.int (hI_s _ _ _ _)) ?_
  refine J_th (fun h7 eh7 => ?_)
  replace hf := lt_i hf h7 eh7
  refine J_aload_n Z.1 0 dX10_clear_35 rfl rfl ?_
  refine J_iconst Z.1 (v := 0) (by decide) dX10_clear_36 ?_
  refine J_putI Z.1 dX10_clear_37 fl_X10_55 (fun q => by cases q) t0 rfl rfl (congrArg Value.int (hI_s _ _ _ _)) ?_
  refine J_th (fun h8 eh8 => ?_)
  replace hf := lt_i hf h8 eh8
  refine J_aload_n Z.1 0 dX10_clear_40 rfl rfl ?_
  refine J_iconst Z.1 (v := 0) (by decide) dX10_clear_41 ?_
  refine J_putI Z.1 dX10_clear_42 fl_X10_58 (fun q => by cases q) t0 rfl rfl (congrArg Value.int (hI_s _ _ _ _)) ?_
  refine J_th (fun h9 eh9 => ?_)
  replace hf := lt_i hf h9 eh9
  refine J_aload_n Z.1 0 dX10_clear_45 rfl rfl ?_
  refine J_iconst Z.1 (v := 0) (by decide) dX10_clear_46 ?_
  refine J_putI Z.1 dX10_clear_47 fl_X10_61 (fun q => by cases q) t0 rfl rfl (congrArg Value.int (hI_s _ _ _ _)) ?_
  refine J_th (fun h10 eh10 => ?_)
  replace hf := lt_i hf h10 eh10
  refine J_aload_n Z.1 0 dX10_clear_50 rfl rfl ?_
  refine J_iconst Z.1 (v := 0) (by decide) dX10_clear_51 ?_
  refine J_putI Z.1 dX10_clear_52 fl_X10_64 (fun q => by cases q) t0 rfl rfl (congrArg Value.int (hI_s _ _ _ _)) ?_
  refine J_th (fun h11 eh11 => ?_)
  replace hf := lt_i hf h11 eh11
  refine J_aload_n Z.1 0 dX10_clear_55 rfl rfl ?_
  refine J_get (v := va_rf (hR h11 this 6)) Z.1 dX10_clear_56 fl_X10_9 t0 rfl ?_
  refine J_tr (fun r12 er12 => ?_)
  replace hf := lt_i hf r12 er12
  refine J_iconst Z.1 (v := (-1)) (by decide) dX10_clear_59 ?_
  replace hf := nn_i hf
  obtain ⟨a12, rfl, hf⟩ := hf
  replace hf := bd_i hf
  obtain ⟨h13, q14, hf⟩ := hf
  refine J_callS (as := [va_rf (some a12), .int (-1)]) (rest := []) (sy := []) Z.1 dX10_clear_60 cw_X10_67 (pJ7_fill_53178_ok G (dk - 1) (by omega) q14) (zG Z) rfl (by decide) (zF Z (by omega)) (zO Z (by omega) (by decide)) (zM _) Z.2.1 Z.2.1 rfl rfl ?_
  refine J_aload_n Z.1 0 dX10_clear_63 rfl rfl ?_
  refine J_get (v := va_rf (hR h13 this 7)) Z.1 dX10_clear_64 fl_X10_15 t0 rfl ?_
  refine J_tr (fun r15 er15 => ?_)
  replace hf := lt_i hf r15 er15
  refine J_iconst Z.1 (v := (-1)) (by decide) dX10_clear_67 ?_
  replace hf := nn_i hf
  obtain ⟨a15, rfl, hf⟩ := hf
  replace hf := bd_i hf
  obtain ⟨h16, q17, hf⟩ := hf
  refine J_callS (as := [va_rf (some a15), .int (-1)]) (rest := []) (sy := []) Z.1 dX10_clear_68 cw_X10_67 (pJ7_fill_53178_ok G (dk - 1) (by omega) q17) (zG Z) rfl (by decide) (zF Z (by omega)) (zO Z (by omega) (by decide)) (zM _) Z.2.1 Z.2.1 rfl rfl ?_
  refine J_aload_n Z.1 0 dX10_clear_71 rfl rfl ?_
  refine J_get (v := va_rf (hR h16 this 13)) Z.1 dX10_clear_72 fl_X10_21 t0 rfl ?_
  refine J_tr (fun r18 er18 => ?_)
  replace hf := lt_i hf r18 er18
  refine J_iconst Z.1 (v := 0) (by decide) dX10_clear_75 ?_
  replace hf := nn_i hf
  obtain ⟨a18, rfl, hf⟩ := hf
  replace hf := bd_i hf
  obtain ⟨h19, q20, hf⟩ := hf
  refine J_callS (as := [va_rf (some a18), .int 0]) (rest := []) (sy := []) Z.1 dX10_clear_76 cw_X10_67 (pJ7_fill_53178_ok G (dk - 1) (by omega) q20) (zG Z) rfl (by decide) (zF Z (by omega)) (zO Z (by omega) (by decide)) (zM _) Z.2.1 Z.2.1 rfl rfl ?_
  refine J_aload_n Z.1 0 dX10_clear_79 rfl rfl ?_
  refine J_get (v := va_rf (hR h19 this 14)) Z.1 dX10_clear_80 fl_X10_24 t0 rfl ?_
  refine J_tr (fun r21 er21 => ?_)
  replace hf := lt_i hf r21 er21
  refine J_iconst Z.1 (v := 0) (by decide) dX10_clear_83 ?_
  replace hf := nn_i hf
  obtain ⟨a21, rfl, hf⟩ := hf
  replace hf := bd_i hf
  obtain ⟨h22, q23, hf⟩ := hf
  refine J_callS (as := [va_rf (some a21), .int 0]) (rest := []) (sy := []) Z.1 dX10_clear_84 cw_X10_67 (pJ7_fill_53178_ok G (dk - 1) (by omega) q23) (zG Z) rfl (by decide) (zF Z (by omega)) (zO Z (by omega) (by decide)) (zM _) Z.2.1 Z.2.1 rfl rfl ?_
  refine J_aload_n Z.1 0 dX10_clear_87 rfl rfl ?_
  refine J_get (v := va_rf (hR h22 this 15)) Z.1 dX10_clear_88 fl_X10_27 t0 rfl ?_
  refine J_tr (fun r24 er24 => ?_)
  replace hf := lt_i hf r24 er24
  refine J_iconst Z.1 (v := 0) (by decide) dX10_clear_91 ?_
  replace hf := nn_i hf
  obtain ⟨a24, rfl, hf⟩ := hf
  replace hf := bd_i hf
  obtain ⟨h25, q26, hf⟩ := hf
  refine J_callS (as := [va_rf (some a24), .int 0]) (rest := []) (sy := []) Z.1 dX10_clear_92 cw_X10_67 (pJ7_fill_53178_ok G (dk - 1) (by omega) q26) (zG Z) rfl (by decide) (zF Z (by omega)) (zO Z (by omega) (by decide)) (zM _) Z.2.1 Z.2.1 rfl rfl ?_
  refine J_aload_n Z.1 0 dX10_clear_95 rfl rfl ?_
  refine J_get (v := va_rf (hR h25 this 16)) Z.1 dX10_clear_96 fl_X10_30 t0 rfl ?_
  refine J_tr (fun r27 er27 => ?_)
  replace hf := lt_i hf r27 er27
  refine J_iconst Z.1 (v := 0) (by decide) dX10_clear_99 ?_
  replace hf := nn_i hf
  obtain ⟨a27, rfl, hf⟩ := hf
  replace hf := bd_i hf
  obtain ⟨h28, q29, hf⟩ := hf
  refine J_callS (as := [va_rf (some a27), .int 0]) (rest := []) (sy := []) Z.1 dX10_clear_100 cw_X10_67 (pJ7_fill_53178_ok G (dk - 1) (by omega) q29) (zG Z) rfl (by decide) (zF Z (by omega)) (zO Z (by omega) (by decide)) (zM _) Z.2.1 Z.2.1 rfl rfl ?_
  cases hf
  exact J_vret Z.1 Z.2.2.2.2.2 dX10_clear_103
theorem dX10_note_0 : decode cX10_note 0 = .ok (.iload_n 1, 1) := by decide +kernel
theorem dX10_note_1 : decode cX10_note 1 = .ok (.aload_n 0, 1) := by decide +kernel
theorem dX10_note_2 : decode cX10_note 2 = .ok (.getfield 33, 3) := by decide +kernel
theorem dX10_note_5 : decode cX10_note 5 = .ok (.if_icmp .le 8, 3) := by decide +kernel
theorem dX10_note_8 : decode cX10_note 8 = .ok (.aload_n 0, 1) := by decide +kernel
theorem dX10_note_9 : decode cX10_note 9 = .ok (.iload_n 1, 1) := by decide +kernel
theorem dX10_note_10 : decode cX10_note 10 = .ok (.putfield 33, 3) := by decide +kernel
theorem dX10_note_13 : decode cX10_note 13 = .ok (.return_, 1) := by decide +kernel
def pX10_note (g : MT) (h : CT) (this : Nat) (p1 : Int32) : Option CT := tg g this 9 (if p1 ≤ (hI h this 0) then some h else lt (sI h this 0 p1) fun h2 => (some h2))
set_option maxRecDepth 10000 in
set_option maxHeartbeats 4000000 in
theorem pX10_note_ok (G : Gx) (dk : Nat) (hK : 0 ≤ dk) {g : MT} {h h0 : CT} {this : Nat} {p1 : Int32} (hf : pX10_note g h this p1 = some h0) : Ctr G dk yX10_note cX10_note 2 none [va_rf (some this), .int p1] g h none g h0 := by
  refine Ctr.ofZ (lv := [(0, va_rf (some this)), (1, .int p1)]) (by decide +kernel) (by simp [cat_i, cat_l, cat_d, cat_rf]) rfl fun X Z => ?_
  unfold pX10_note at hf
  replace hf := tg_i hf
  obtain ⟨t0, hf⟩ := hf
  refine J_iload_n Z.1 1 dX10_note_0 rfl rfl ?_
  refine J_aload_n Z.1 0 dX10_note_1 rfl rfl ?_
  refine J_get (v := .int (hI h this 0)) Z.1 dX10_note_2 fl_X10_33 t0 rfl ?_
  refine J_icmp_le Z.1 13 dX10_note_5 (by decide) (fun c1 => ?_) (fun c1 => ?_)
  · rw [if_pos c1] at hf
    cases hf
    exact J_vret Z.1 Z.2.2.2.2.2 dX10_note_13
  · rw [if_neg c1] at hf
    refine J_aload_n Z.1 0 dX10_note_8 rfl rfl ?_
    refine J_iload_n Z.1 1 dX10_note_9 rfl rfl ?_
    refine J_putI Z.1 dX10_note_10 fl_X10_33 (fun q => by cases q) t0 rfl rfl (congrArg Value.int (hI_s _ _ _ _)) ?_
    refine J_th (fun h2 eh2 => ?_)
    replace hf := lt_i hf h2 eh2
    cases hf
    exact J_vret Z.1 Z.2.2.2.2.2 dX10_note_13
theorem dX10_cell_0 : decode cX10_cell 0 = .ok (.iload_n 0, 1) := by decide +kernel
theorem dX10_cell_1 : decode cX10_cell 1 = .ok (.ifCond .lt 28, 3) := by decide +kernel
theorem dX10_cell_4 : decode cX10_cell 4 = .ok (.iload_n 0, 1) := by decide +kernel
theorem dX10_cell_5 : decode cX10_cell 5 = .ok (.bipush 6, 2) := by decide +kernel
theorem dX10_cell_7 : decode cX10_cell 7 = .ok (.if_icmp .ge 22, 3) := by decide +kernel
theorem dX10_cell_10 : decode cX10_cell 10 = .ok (.iload_n 1, 1) := by decide +kernel
theorem dX10_cell_11 : decode cX10_cell 11 = .ok (.ifCond .lt 18, 3) := by decide +kernel
theorem dX10_cell_14 : decode cX10_cell 14 = .ok (.iload_n 1, 1) := by decide +kernel
theorem dX10_cell_15 : decode cX10_cell 15 = .ok (.bipush 16, 2) := by decide +kernel
theorem dX10_cell_17 : decode cX10_cell 17 = .ok (.if_icmp .ge 12, 3) := by decide +kernel
theorem dX10_cell_20 : decode cX10_cell 20 = .ok (.iload_n 0, 1) := by decide +kernel
theorem dX10_cell_21 : decode cX10_cell 21 = .ok (.bipush 16, 2) := by decide +kernel
theorem dX10_cell_23 : decode cX10_cell 23 = .ok (.imul, 1) := by decide +kernel
theorem dX10_cell_24 : decode cX10_cell 24 = .ok (.iload_n 1, 1) := by decide +kernel
theorem dX10_cell_25 : decode cX10_cell 25 = .ok (.iadd, 1) := by decide +kernel
theorem dX10_cell_26 : decode cX10_cell 26 = .ok (.goto 4, 3) := by decide +kernel
theorem dX10_cell_29 : decode cX10_cell 29 = .ok (.iconst 0, 1) := by decide +kernel
theorem dX10_cell_30 : decode cX10_cell 30 = .ok (.ireturn, 1) := by decide +kernel
def pX10_cell (p0 : Int32) (p1 : Int32) : Int32 := if p0 < 0 then 0 else if 6 ≤ p0 then 0 else if p1 < 0 then 0 else if 16 ≤ p1 then 0 else ((p0 * 16) + p1)
set_option maxRecDepth 10000 in
set_option maxHeartbeats 4000000 in
theorem pX10_cell_ok (G : Gx) (dk : Nat) (hK : 0 ≤ dk) (g : MT) (h0 : CT) (p0 : Int32) (p1 : Int32) : Ctr G dk yX10_cell cX10_cell 2 (some .int) [.int p0, .int p1] g h0 (some (.int (pX10_cell p0 p1))) g h0 := by
  obtain ⟨r0, hf⟩ : ∃ z, pX10_cell p0 p1 = z := ⟨_, rfl⟩
  rw [hf]
  refine Ctr.ofZ (lv := [(0, .int p0), (1, .int p1)]) (by decide +kernel) (by simp [cat_i, cat_l, cat_d, cat_rf]) rfl fun X Z => ?_
  unfold pX10_cell at hf
  refine J_iload_n Z.1 0 dX10_cell_0 rfl rfl ?_
  refine J_if_lt Z.1 29 dX10_cell_1 (by decide) (fun c1 => ?_) (fun c1 => ?_)
  · rw [if_pos c1] at hf
    refine J_iconst Z.1 (v := 0) (by decide) dX10_cell_29 ?_
    cases hf
    exact J_iret Z.1 Z.2.2.2.2.2 dX10_cell_30
  · rw [if_neg c1] at hf
    refine J_iload_n Z.1 0 dX10_cell_4 rfl rfl ?_
    refine J_bipush Z.1 (v := 6) (by decide) dX10_cell_5 ?_
    refine J_icmp_ge Z.1 29 dX10_cell_7 (by decide) (fun c2 => ?_) (fun c2 => ?_)
    · rw [if_pos c2] at hf
      refine J_iconst Z.1 (v := 0) (by decide) dX10_cell_29 ?_
      cases hf
      exact J_iret Z.1 Z.2.2.2.2.2 dX10_cell_30
    · rw [if_neg c2] at hf
      refine J_iload_n Z.1 1 dX10_cell_10 rfl rfl ?_
      refine J_if_lt Z.1 29 dX10_cell_11 (by decide) (fun c3 => ?_) (fun c3 => ?_)
      · rw [if_pos c3] at hf
        refine J_iconst Z.1 (v := 0) (by decide) dX10_cell_29 ?_
        cases hf
        exact J_iret Z.1 Z.2.2.2.2.2 dX10_cell_30
      · rw [if_neg c3] at hf
        refine J_iload_n Z.1 1 dX10_cell_14 rfl rfl ?_
        refine J_bipush Z.1 (v := 16) (by decide) dX10_cell_15 ?_
        refine J_icmp_ge Z.1 29 dX10_cell_17 (by decide) (fun c4 => ?_) (fun c4 => ?_)
        · rw [if_pos c4] at hf
          refine J_iconst Z.1 (v := 0) (by decide) dX10_cell_29 ?_
          cases hf
          exact J_iret Z.1 Z.2.2.2.2.2 dX10_cell_30
        · rw [if_neg c4] at hf
          refine J_iload_n Z.1 0 dX10_cell_20 rfl rfl ?_
          refine J_bipush Z.1 (v := 16) (by decide) dX10_cell_21 ?_
          refine J_imul Z.1 dX10_cell_23 ?_
          refine J_iload_n Z.1 1 dX10_cell_24 rfl rfl ?_
          refine J_iadd Z.1 dX10_cell_25 ?_
          refine J_goto Z.1 30 dX10_cell_26 (by decide) ?_
          cases hf
          exact J_iret Z.1 Z.2.2.2.2.2 dX10_cell_30
theorem dX10_readyAt_0 : decode cX10_readyAt 0 = .ok (.aload_n 0, 1) := by decide +kernel
theorem dX10_readyAt_1 : decode cX10_readyAt 1 = .ok (.getfield 24, 3) := by decide +kernel
theorem dX10_readyAt_4 : decode cX10_readyAt 4 = .ok (.iload_n 1, 1) := by decide +kernel
theorem dX10_readyAt_5 : decode cX10_readyAt 5 = .ok (.iload_n 2, 1) := by decide +kernel
theorem dX10_readyAt_6 : decode cX10_readyAt 6 = .ok (.invokestatic 73, 3) := by decide +kernel
theorem dX10_readyAt_9 : decode cX10_readyAt 9 = .ok (.iaload, 1) := by decide +kernel
theorem dX10_readyAt_10 : decode cX10_readyAt 10 = .ok (.ireturn, 1) := by decide +kernel
def pX10_readyAt (g : MT) (h : CT) (this : Nat) (p1 : Int32) (p2 : Int32) : Option Int32 := tg g this 9 (lt (hR h this 14) fun r1 => (nn r1 fun a1 => (tg g a1 20 (ix (gL g a1) (pX10_cell p1 p2) (some (hI h a1 (Int32.toNatClampNeg (pX10_cell p1 p2))))))))
set_option maxRecDepth 10000 in
set_option maxHeartbeats 4000000 in
theorem pX10_readyAt_ok (G : Gx) (dk : Nat) (hK : 1 ≤ dk) {g : MT} {h : CT} {this : Nat} {p1 : Int32} {p2 : Int32} {r0 : Int32} (hf : pX10_readyAt g h this p1 p2 = some r0) : Ctr G dk yX10_readyAt cX10_readyAt 3 (some .int) [va_rf (some this), .int p1, .int p2] g h (some (.int r0)) g h := by
  refine Ctr.ofZ (lv := [(0, va_rf (some this)), (1, .int p1), (2, .int p2)]) (by decide +kernel) (by simp [cat_i, cat_l, cat_d, cat_rf]) rfl fun X Z => ?_
  unfold pX10_readyAt at hf
  replace hf := tg_i hf
  obtain ⟨t0, hf⟩ := hf
  refine J_aload_n Z.1 0 dX10_readyAt_0 rfl rfl ?_
  refine J_get (v := va_rf (hR h this 14)) Z.1 dX10_readyAt_1 fl_X10_24 t0 rfl ?_
  refine J_tr (fun r1 er1 => ?_)
  replace hf := lt_i hf r1 er1
  refine J_iload_n Z.1 1 dX10_readyAt_4 rfl rfl ?_
  refine J_iload_n Z.1 2 dX10_readyAt_5 rfl rfl ?_
  refine J_callS (as := [.int p1, .int p2]) (rest := [va_rf r1]) (sy := [.int (pX10_cell p1 p2), va_rf r1]) Z.1 dX10_readyAt_6 cw_X10_73 (pX10_cell_ok G (dk - 1) (by omega) g h p1 p2) (zG Z) rfl (by simp [cat_i, cat_l, cat_d, cat_rf]) (zF Z (by omega)) (zO Z (by omega) (by decide)) (zM _) Z.2.1 Z.2.1 rfl rfl ?_
  replace hf := nn_i hf
  obtain ⟨a1, rfl, hf⟩ := hf
  replace hf := tg_i hf
  obtain ⟨t2, hf⟩ := hf
  replace hf := ix_i hf
  obtain ⟨i3, hf⟩ := hf
  refine J_iaload Z.1 dX10_readyAt_9 t2 i3 ?_
  cases hf
  exact J_iret Z.1 Z.2.2.2.2.2 dX10_readyAt_10
theorem dX10_readNow_0 : decode cX10_readNow 0 = .ok (.iload_n 1, 1) := by decide +kernel
theorem dX10_readNow_1 : decode cX10_readNow 1 = .ok (.iload_n 2, 1) := by decide +kernel
theorem dX10_readNow_2 : decode cX10_readNow 2 = .ok (.invokestatic 73, 3) := by decide +kernel
theorem dX10_readNow_5 : decode cX10_readNow 5 = .ok (.istore 4, 2) := by decide +kernel
theorem dX10_readNow_7 : decode cX10_readNow 7 = .ok (.aload_n 0, 1) := by decide +kernel
theorem dX10_readNow_8 : decode cX10_readNow 8 = .ok (.getfield 27, 3) := by decide +kernel
theorem dX10_readNow_11 : decode cX10_readNow 11 = .ok (.iload 4, 2) := by decide +kernel
theorem dX10_readNow_13 : decode cX10_readNow 13 = .ok (.aload_n 0, 1) := by decide +kernel
theorem dX10_readNow_14 : decode cX10_readNow 14 = .ok (.getfield 27, 3) := by decide +kernel
theorem dX10_readNow_17 : decode cX10_readNow 17 = .ok (.iload 4, 2) := by decide +kernel
theorem dX10_readNow_19 : decode cX10_readNow 19 = .ok (.iaload, 1) := by decide +kernel
theorem dX10_readNow_20 : decode cX10_readNow 20 = .ok (.iload_n 3, 1) := by decide +kernel
theorem dX10_readNow_21 : decode cX10_readNow 21 = .ok (.invokestatic 77, 3) := by decide +kernel
theorem dX10_readNow_24 : decode cX10_readNow 24 = .ok (.iastore, 1) := by decide +kernel
theorem dX10_readNow_25 : decode cX10_readNow 25 = .ok (.return_, 1) := by decide +kernel
def pX10_readNow (g : MT) (h : CT) (this : Nat) (p1 : Int32) (p2 : Int32) (p3 : Int32) : Option CT := tg g this 9 (lt (pX10_cell p1 p2) fun x1 => (lt (hR h this 15) fun r2 => (lt (hR h this 15) fun r3 => (nn r3 fun a3 => (tg g a3 20 (ix (gL g a3) x1 (nn r2 fun a2 => (tg g a2 20 (ix (gL g a2) x1 (lt (sI h a2 (Int32.toNatClampNeg x1) (pJ9_max_7cf53 (hI h a3 (Int32.toNatClampNeg x1)) p3)) fun h8 => (some h8)))))))))))
set_option maxRecDepth 10000 in
set_option maxHeartbeats 4000000 in
theorem pX10_readNow_ok (G : Gx) (dk : Nat) (hK : 1 ≤ dk) {g : MT} {h h0 : CT} {this : Nat} {p1 : Int32} {p2 : Int32} {p3 : Int32} (hf : pX10_readNow g h this p1 p2 p3 = some h0) : Ctr G dk yX10_readNow cX10_readNow 5 none [va_rf (some this), .int p1, .int p2, .int p3] g h none g h0 := by
  refine Ctr.ofZ (lv := [(0, va_rf (some this)), (1, .int p1), (2, .int p2), (3, .int p3)]) (by decide +kernel) (by simp [cat_i, cat_l, cat_d, cat_rf]) rfl fun X Z => ?_
  unfold pX10_readNow at hf
  replace hf := tg_i hf
  obtain ⟨t0, hf⟩ := hf
  refine J_iload_n Z.1 1 dX10_readNow_0 rfl rfl ?_
  refine J_iload_n Z.1 2 dX10_readNow_1 rfl rfl ?_
  refine J_callS (as := [.int p1, .int p2]) (rest := []) (sy := [.int (pX10_cell p1 p2)]) Z.1 dX10_readNow_2 cw_X10_73 (pX10_cell_ok G (dk - 1) (by omega) g h p1 p2) (zG Z) rfl (by decide) (zF Z (by omega)) (zO Z (by omega) (by decide)) (zM _) Z.2.1 Z.2.1 rfl rfl ?_
  refine J_ti (fun x1 ex1 => ?_)
  replace hf := lt_i hf x1 ex1
  refine J_istore Z.1 (lv2 := [(4, .int x1), (0, va_rf (some this)), (1, .int p1), (2, .int p2), (3, .int p3)]) dX10_readNow_5 (zL Z (by decide)) rfl ?_
  refine J_aload_n Z.1 1 dX10_readNow_7 rfl rfl ?_
  refine J_get (v := va_rf (hR h this 15)) Z.1 dX10_readNow_8 fl_X10_27 t0 rfl ?_
  refine J_tr (fun r2 er2 => ?_)
  replace hf := lt_i hf r2 er2
  refine J_iload Z.1 0 dX10_readNow_11 rfl ?_
  refine J_aload_n Z.1 1 dX10_readNow_13 rfl rfl ?_
  refine J_get (v := va_rf (hR h this 15)) Z.1 dX10_readNow_14 fl_X10_27 t0 rfl ?_
  refine J_tr (fun r3 er3 => ?_)
  replace hf := lt_i hf r3 er3
  refine J_iload Z.1 0 dX10_readNow_17 rfl ?_
  replace hf := nn_i hf
  obtain ⟨a3, rfl, hf⟩ := hf
  replace hf := tg_i hf
  obtain ⟨t4, hf⟩ := hf
  replace hf := ix_i hf
  obtain ⟨i5, hf⟩ := hf
  refine J_iaload Z.1 dX10_readNow_19 t4 i5 ?_
  refine J_iload_n Z.1 4 dX10_readNow_20 rfl rfl ?_
  refine J_callS (as := [.int (hI h a3 (Int32.toNatClampNeg x1)), .int p3]) (rest := [.int x1, va_rf r2]) (sy := [.int (pJ9_max_7cf53 (hI h a3 (Int32.toNatClampNeg x1)) p3), .int x1, va_rf r2]) Z.1 dX10_readNow_21 cw_X10_77 (pJ9_max_7cf53_ok G (dk - 1) (by omega) g h (hI h a3 (Int32.toNatClampNeg x1)) p3) (zG Z) rfl (by simp [cat_i, cat_l, cat_d, cat_rf]) (zF Z (by omega)) (zO Z (by omega) (by decide)) (zM _) Z.2.1 Z.2.1 rfl rfl ?_
  replace hf := nn_i hf
  obtain ⟨a2, rfl, hf⟩ := hf
  replace hf := tg_i hf
  obtain ⟨t6, hf⟩ := hf
  replace hf := ix_i hf
  obtain ⟨i7, hf⟩ := hf
  refine J_iastore Z.1 dX10_readNow_24 t6 i7 ?_
  refine J_th (fun h8 eh8 => ?_)
  replace hf := lt_i hf h8 eh8
  cases hf
  exact J_vret Z.1 Z.2.2.2.2.2 dX10_readNow_25
theorem dX10_readyFrom_0 : decode cX10_readyFrom 0 = .ok (.aload_n 0, 1) := by decide +kernel
theorem dX10_readyFrom_1 : decode cX10_readyFrom 1 = .ok (.getfield 24, 3) := by decide +kernel
theorem dX10_readyFrom_4 : decode cX10_readyFrom 4 = .ok (.iload_n 1, 1) := by decide +kernel
theorem dX10_readyFrom_5 : decode cX10_readyFrom 5 = .ok (.iload_n 2, 1) := by decide +kernel
theorem dX10_readyFrom_6 : decode cX10_readyFrom 6 = .ok (.invokestatic 73, 3) := by decide +kernel
theorem dX10_readyFrom_9 : decode cX10_readyFrom 9 = .ok (.iload_n 3, 1) := by decide +kernel
theorem dX10_readyFrom_10 : decode cX10_readyFrom 10 = .ok (.iastore, 1) := by decide +kernel
theorem dX10_readyFrom_11 : decode cX10_readyFrom 11 = .ok (.aload_n 0, 1) := by decide +kernel
theorem dX10_readyFrom_12 : decode cX10_readyFrom 12 = .ok (.iload_n 3, 1) := by decide +kernel
theorem dX10_readyFrom_13 : decode cX10_readyFrom 13 = .ok (.invokevirtual 82, 3) := by decide +kernel
theorem dX10_readyFrom_16 : decode cX10_readyFrom 16 = .ok (.return_, 1) := by decide +kernel
def pX10_readyFrom (g : MT) (h : CT) (this : Nat) (p1 : Int32) (p2 : Int32) (p3 : Int32) : Option CT := tg g this 9 (lt (hR h this 14) fun r1 => (nn r1 fun a1 => (tg g a1 20 (ix (gL g a1) (pX10_cell p1 p2) (lt (sI h a1 (Int32.toNatClampNeg (pX10_cell p1 p2)) p3) fun h4 => (bd (pX10_note g h4 this p3) fun h5 => (some h5)))))))
set_option maxRecDepth 10000 in
set_option maxHeartbeats 4000000 in
theorem pX10_readyFrom_ok (G : Gx) (dk : Nat) (hK : 1 ≤ dk) {g : MT} {h h0 : CT} {this : Nat} {p1 : Int32} {p2 : Int32} {p3 : Int32} (hf : pX10_readyFrom g h this p1 p2 p3 = some h0) : Ctr G dk yX10_readyFrom cX10_readyFrom 4 none [va_rf (some this), .int p1, .int p2, .int p3] g h none g h0 := by
  refine Ctr.ofZ (lv := [(0, va_rf (some this)), (1, .int p1), (2, .int p2), (3, .int p3)]) (by decide +kernel) (by simp [cat_i, cat_l, cat_d, cat_rf]) rfl fun X Z => ?_
  unfold pX10_readyFrom at hf
  replace hf := tg_i hf
  obtain ⟨t0, hf⟩ := hf
  refine J_aload_n Z.1 0 dX10_readyFrom_0 rfl rfl ?_
  refine J_get (v := va_rf (hR h this 14)) Z.1 dX10_readyFrom_1 fl_X10_24 t0 rfl ?_
  refine J_tr (fun r1 er1 => ?_)
  replace hf := lt_i hf r1 er1
  refine J_iload_n Z.1 1 dX10_readyFrom_4 rfl rfl ?_
  refine J_iload_n Z.1 2 dX10_readyFrom_5 rfl rfl ?_
  refine J_callS (as := [.int p1, .int p2]) (rest := [va_rf r1]) (sy := [.int (pX10_cell p1 p2), va_rf r1]) Z.1 dX10_readyFrom_6 cw_X10_73 (pX10_cell_ok G (dk - 1) (by omega) g h p1 p2) (zG Z) rfl (by simp [cat_i, cat_l, cat_d, cat_rf]) (zF Z (by omega)) (zO Z (by omega) (by decide)) (zM _) Z.2.1 Z.2.1 rfl rfl ?_
  refine J_iload_n Z.1 3 dX10_readyFrom_9 rfl rfl ?_
  replace hf := nn_i hf
  obtain ⟨a1, rfl, hf⟩ := hf
  replace hf := tg_i hf
  obtain ⟨t2, hf⟩ := hf
  replace hf := ix_i hf
  obtain ⟨i3, hf⟩ := hf
  refine J_iastore Z.1 dX10_readyFrom_10 t2 i3 ?_
  refine J_th (fun h4 eh4 => ?_)
  replace hf := lt_i hf h4 eh4
  refine J_aload_n Z.1 0 dX10_readyFrom_11 rfl rfl ?_
  refine J_iload_n Z.1 3 dX10_readyFrom_12 rfl rfl ?_
  replace hf := bd_i hf
  obtain ⟨h5, q6, hf⟩ := hf
  refine J_callV (ci := 8) (as := [.int p3]) (rest := []) (sy := []) Z.1 dX10_readyFrom_13 cw_X10_82 (pX10_note_ok G (dk - 1) (by omega) q6) rfl rfl t0 (zG Z) rfl (by decide) (zF Z (by omega)) (zO Z (by omega) (by decide)) (zM _) Z.2.1 Z.2.1 rfl rfl ?_
  cases hf
  exact J_vret Z.1 Z.2.2.2.2.2 dX10_readyFrom_16
theorem dX10_beginEnd_0 : decode cX10_beginEnd 0 = .ok (.aload_n 0, 1) := by decide +kernel
theorem dX10_beginEnd_1 : decode cX10_beginEnd 1 = .ok (.aload_n 0, 1) := by decide +kernel
theorem dX10_beginEnd_2 : decode cX10_beginEnd 2 = .ok (.getfield 52, 3) := by decide +kernel
theorem dX10_beginEnd_5 : decode cX10_beginEnd 5 = .ok (.iconst 1, 1) := by decide +kernel
theorem dX10_beginEnd_6 : decode cX10_beginEnd 6 = .ok (.iadd, 1) := by decide +kernel
theorem dX10_beginEnd_7 : decode cX10_beginEnd 7 = .ok (.aload_n 0, 1) := by decide +kernel
theorem dX10_beginEnd_8 : decode cX10_beginEnd 8 = .ok (.getfield 55, 3) := by decide +kernel
theorem dX10_beginEnd_11 : decode cX10_beginEnd 11 = .ok (.invokestatic 77, 3) := by decide +kernel
theorem dX10_beginEnd_14 : decode cX10_beginEnd 14 = .ok (.putfield 52, 3) := by decide +kernel
theorem dX10_beginEnd_17 : decode cX10_beginEnd 17 = .ok (.aload_n 0, 1) := by decide +kernel
theorem dX10_beginEnd_18 : decode cX10_beginEnd 18 = .ok (.aload_n 0, 1) := by decide +kernel
theorem dX10_beginEnd_19 : decode cX10_beginEnd 19 = .ok (.getfield 52, 3) := by decide +kernel
theorem dX10_beginEnd_22 : decode cX10_beginEnd 22 = .ok (.invokevirtual 82, 3) := by decide +kernel
theorem dX10_beginEnd_25 : decode cX10_beginEnd 25 = .ok (.return_, 1) := by decide +kernel
def pX10_beginEnd (g : MT) (h : CT) (this : Nat) : Option CT := tg g this 9 (lt (sI h this 8 (pJ9_max_7cf53 ((hI h this 8) + 1) (hI h this 9))) fun h1 => (bd (pX10_note g h1 this (hI h1 this 8)) fun h2 => (some h2)))
set_option maxRecDepth 10000 in
set_option maxHeartbeats 4000000 in
theorem pX10_beginEnd_ok (G : Gx) (dk : Nat) (hK : 1 ≤ dk) {g : MT} {h h0 : CT} {this : Nat} (hf : pX10_beginEnd g h this = some h0) : Ctr G dk yX10_beginEnd cX10_beginEnd 1 none [va_rf (some this)] g h none g h0 := by
  refine Ctr.ofZ (lv := [(0, va_rf (some this))]) (by decide +kernel) (by simp [cat_i, cat_l, cat_d, cat_rf]) rfl fun X Z => ?_
  unfold pX10_beginEnd at hf
  replace hf := tg_i hf
  obtain ⟨t0, hf⟩ := hf
  refine J_aload_n Z.1 0 dX10_beginEnd_0 rfl rfl ?_
  refine J_aload_n Z.1 0 dX10_beginEnd_1 rfl rfl ?_
  refine J_get (v := .int (hI h this 8)) Z.1 dX10_beginEnd_2 fl_X10_52 t0 rfl ?_
  refine J_iconst Z.1 (v := 1) (by decide) dX10_beginEnd_5 ?_
  refine J_iadd Z.1 dX10_beginEnd_6 ?_
  refine J_aload_n Z.1 0 dX10_beginEnd_7 rfl rfl ?_
  refine J_get (v := .int (hI h this 9)) Z.1 dX10_beginEnd_8 fl_X10_55 t0 rfl ?_
  refine J_callS (as := [.int ((hI h this 8) + 1), .int (hI h this 9)]) (rest := [va_rf (some this)]) (sy := [.int (pJ9_max_7cf53 ((hI h this 8) + 1) (hI h this 9)), va_rf (some this)]) Z.1 dX10_beginEnd_11 cw_X10_77 (pJ9_max_7cf53_ok G (dk - 1) (by omega) g h ((hI h this 8) + 1) (hI h this 9)) (zG Z) rfl (by simp [cat_i, cat_l, cat_d, cat_rf]) (zF Z (by omega)) (zO Z (by omega) (by decide)) (zM _) Z.2.1 Z.2.1 rfl rfl ?_
  refine J_putI Z.1 dX10_beginEnd_14 fl_X10_52 (fun q => by cases q) t0 rfl rfl (congrArg Value.int (hI_s _ _ _ _)) ?_
  refine J_th (fun h1 eh1 => ?_)
  replace hf := lt_i hf h1 eh1
  refine J_aload_n Z.1 0 dX10_beginEnd_17 rfl rfl ?_
  refine J_aload_n Z.1 0 dX10_beginEnd_18 rfl rfl ?_
  refine J_get (v := .int (hI h1 this 8)) Z.1 dX10_beginEnd_19 fl_X10_52 t0 rfl ?_
  replace hf := bd_i hf
  obtain ⟨h2, q3, hf⟩ := hf
  refine J_callV (ci := 8) (as := [.int (hI h1 this 8)]) (rest := []) (sy := []) Z.1 dX10_beginEnd_22 cw_X10_82 (pX10_note_ok G (dk - 1) (by omega) q3) rfl rfl t0 (zG Z) rfl (by decide) (zF Z (by omega)) (zO Z (by omega) (by decide)) (zM _) Z.2.1 Z.2.1 rfl rfl ?_
  cases hf
  exact J_vret Z.1 Z.2.2.2.2.2 dX10_beginEnd_25
theorem dX10_rowReady_0 : decode cX10_rowReady 0 = .ok (.iconst 0, 1) := by decide +kernel
theorem dX10_rowReady_1 : decode cX10_rowReady 1 = .ok (.istore_n 3, 1) := by decide +kernel
theorem dX10_rowReady_2 : decode cX10_rowReady 2 = .ok (.iconst 0, 1) := by decide +kernel
theorem dX10_rowReady_3 : decode cX10_rowReady 3 = .ok (.istore 4, 2) := by decide +kernel
theorem dX10_rowReady_5 : decode cX10_rowReady 5 = .ok (.iload 4, 2) := by decide +kernel
theorem dX10_rowReady_7 : decode cX10_rowReady 7 = .ok (.iload_n 2, 1) := by decide +kernel
theorem dX10_rowReady_8 : decode cX10_rowReady 8 = .ok (.if_icmp .ge 54, 3) := by decide +kernel
theorem dX10_rowReady_11 : decode cX10_rowReady 11 = .ok (.aload_n 1, 1) := by decide +kernel
theorem dX10_rowReady_12 : decode cX10_rowReady 12 = .ok (.getfield 118, 3) := by decide +kernel
theorem dX10_rowReady_15 : decode cX10_rowReady 15 = .ok (.iload 4, 2) := by decide +kernel
theorem dX10_rowReady_17 : decode cX10_rowReady 17 = .ok (.invokestatic 73, 3) := by decide +kernel
theorem dX10_rowReady_20 : decode cX10_rowReady 20 = .ok (.istore 5, 2) := by decide +kernel
theorem dX10_rowReady_22 : decode cX10_rowReady 22 = .ok (.iload_n 3, 1) := by decide +kernel
theorem dX10_rowReady_23 : decode cX10_rowReady 23 = .ok (.aload_n 0, 1) := by decide +kernel
theorem dX10_rowReady_24 : decode cX10_rowReady 24 = .ok (.getfield 24, 3) := by decide +kernel
theorem dX10_rowReady_27 : decode cX10_rowReady 27 = .ok (.iload 5, 2) := by decide +kernel
theorem dX10_rowReady_29 : decode cX10_rowReady 29 = .ok (.iaload, 1) := by decide +kernel
theorem dX10_rowReady_30 : decode cX10_rowReady 30 = .ok (.invokestatic 77, 3) := by decide +kernel
theorem dX10_rowReady_33 : decode cX10_rowReady 33 = .ok (.istore_n 3, 1) := by decide +kernel
theorem dX10_rowReady_34 : decode cX10_rowReady 34 = .ok (.aload_n 1, 1) := by decide +kernel
theorem dX10_rowReady_35 : decode cX10_rowReady 35 = .ok (.getfield 86, 3) := by decide +kernel
theorem dX10_rowReady_38 : decode cX10_rowReady 38 = .ok (.getstatic 105, 3) := by decide +kernel
theorem dX10_rowReady_41 : decode cX10_rowReady 41 = .ok (.if_acmp .ne 15, 3) := by decide +kernel
theorem dX10_rowReady_44 : decode cX10_rowReady 44 = .ok (.iload_n 3, 1) := by decide +kernel
theorem dX10_rowReady_45 : decode cX10_rowReady 45 = .ok (.aload_n 0, 1) := by decide +kernel
theorem dX10_rowReady_46 : decode cX10_rowReady 46 = .ok (.getfield 27, 3) := by decide +kernel
theorem dX10_rowReady_49 : decode cX10_rowReady 49 = .ok (.iload 5, 2) := by decide +kernel
theorem dX10_rowReady_51 : decode cX10_rowReady 51 = .ok (.iaload, 1) := by decide +kernel
theorem dX10_rowReady_52 : decode cX10_rowReady 52 = .ok (.invokestatic 77, 3) := by decide +kernel
theorem dX10_rowReady_55 : decode cX10_rowReady 55 = .ok (.istore_n 3, 1) := by decide +kernel
theorem dX10_rowReady_56 : decode cX10_rowReady 56 = .ok (.iinc 4 1, 3) := by decide +kernel
theorem dX10_rowReady_59 : decode cX10_rowReady 59 = .ok (.goto (-54), 3) := by decide +kernel
theorem dX10_rowReady_62 : decode cX10_rowReady 62 = .ok (.iload_n 3, 1) := by decide +kernel
theorem dX10_rowReady_63 : decode cX10_rowReady 63 = .ok (.ireturn, 1) := by decide +kernel
def pX10_rowReady_b56 (E : EC) (g : MT) (h : CT) (this : Nat) (p1 : Nat) (p2 : Int32) (k5 : Int32 → Int32 → Option Int32) (l3 : Int32) (l4 : Int32) : Option Int32 := lt (l4 + 1) fun x1 => (k5 l3 x1)
set_option maxRecDepth 10000 in
set_option maxHeartbeats 4000000 in
theorem pX10_rowReady_b56_ok {X : Cx} {G : Gx} {dk : Nat} {g : MT} {r0 : Int32} {h : CT} {this : Nat} {p1 : Nat} {p2 : Int32} {k5 : Int32 → Int32 → Option Int32} (Z : Zx X G cX10_rowReady RX10 6 dk (some .int) (some (.int r0)) g h) (hK : 1 ≤ dk) {E : EC} (hE : G.2.2.2 = E) (t0 : gT g this = 9) (hk5 : ∀ (l3 : Int32) (l4 : Int32), k5 l3 l4 = some r0 → J X g h 5 [(0, va_rf (some this)), (1, va_rf (some p1)), (2, .int p2), (3, .int l3), (4, .int l4)] []) (l3 : Int32) (l4 : Int32) (hf : pX10_rowReady_b56 E g h this p1 p2 k5 l3 l4 = some r0) : J X g h 56 [(0, va_rf (some this)), (1, va_rf (some p1)), (2, .int p2), (3, .int l3), (4, .int l4)] [] := by
  unfold pX10_rowReady_b56 at hf
  refine J_iinc Z.1 (v := 1) (lv2 := [(4, .int (l4 + 1)), (0, va_rf (some this)), (1, va_rf (some p1)), (2, .int p2), (3, .int l3)]) 4 dX10_rowReady_56 rfl (by decide) (zL Z (by decide)) rfl ?_
  obtain ⟨x1, ex1⟩ : ∃ z, z = (l4 + 1) := ⟨_, rfl⟩
  replace hf := lt_i hf x1 ex1
  rw [← ex1]
  refine J_goto Z.1 5 dX10_rowReady_59 (by decide) ?_
  refine J_lv [1, 2, 3, 4, 0] rfl ?_
  exact hk5 _ _ hf
def pX10_rowReady_b5 (E : EC) (g : MT) (h : CT) (this : Nat) (p1 : Nat) (p2 : Int32) (k5 : Int32 → Int32 → Option Int32) (l3 : Int32) (l4 : Int32) : Option Int32 := if p2 ≤ l4 then some l3 else tg g p1 2 (lt (pX10_cell (hI h p1 1) l4) fun x3 => (lt (hR h this 14) fun r4 => (nn r4 fun a4 => (tg g a4 20 (ix (gL g a4) x3 (lt (pJ9_max_7cf53 l3 (hI h a4 (Int32.toNatClampNeg x3))) fun x7 => (lt (hR h p1 0) fun r8 => (kR (E.1 26) fun a9 => (if r8 = (some a9) then lt (hR h this 15) fun r11 => (nn r11 fun a11 => (tg g a11 20 (ix (gL g a11) x3 (lt (pJ9_max_7cf53 x7 (hI h a11 (Int32.toNatClampNeg x3))) fun x14 => (pX10_rowReady_b56 E g h this p1 p2 k5 x14 l4))))) else pX10_rowReady_b56 E g h this p1 p2 k5 x7 l4)))))))))
set_option maxRecDepth 10000 in
set_option maxHeartbeats 4000000 in
theorem pX10_rowReady_b5_ok {X : Cx} {G : Gx} {dk : Nat} {g : MT} {r0 : Int32} {h : CT} {this : Nat} {p1 : Nat} {p2 : Int32} {k5 : Int32 → Int32 → Option Int32} (Z : Zx X G cX10_rowReady RX10 6 dk (some .int) (some (.int r0)) g h) (hK : 1 ≤ dk) {E : EC} (hE : G.2.2.2 = E) (t0 : gT g this = 9) (hk5 : ∀ (l3 : Int32) (l4 : Int32), k5 l3 l4 = some r0 → J X g h 5 [(0, va_rf (some this)), (1, va_rf (some p1)), (2, .int p2), (3, .int l3), (4, .int l4)] []) (l3 : Int32) (l4 : Int32) (hf : pX10_rowReady_b5 E g h this p1 p2 k5 l3 l4 = some r0) : J X g h 5 [(0, va_rf (some this)), (1, va_rf (some p1)), (2, .int p2), (3, .int l3), (4, .int l4)] [] := by
  unfold pX10_rowReady_b5 at hf
  refine J_iload Z.1 4 dX10_rowReady_5 rfl ?_
  refine J_iload_n Z.1 2 dX10_rowReady_7 rfl rfl ?_
  refine J_icmp_ge Z.1 62 dX10_rowReady_8 (by decide) (fun c1 => ?_) (fun c1 => ?_)
  · rw [if_pos c1] at hf
    refine J_iload_n Z.1 3 dX10_rowReady_62 rfl rfl ?_
    cases hf
    exact J_iret Z.1 Z.2.2.2.2.2 dX10_rowReady_63
  · rw [if_neg c1] at hf
    refine J_aload_n Z.1 1 dX10_rowReady_11 rfl rfl ?_
    replace hf := tg_i hf
    obtain ⟨t2, hf⟩ := hf
    refine J_get (v := .int (hI h p1 1)) Z.1 dX10_rowReady_12 fl_X10_118 t2 rfl ?_
    refine J_iload Z.1 4 dX10_rowReady_15 rfl ?_
    refine J_callS (as := [.int (hI h p1 1), .int l4]) (rest := []) (sy := [.int (pX10_cell (hI h p1 1) l4)]) Z.1 dX10_rowReady_17 cw_X10_73 (pX10_cell_ok G (dk - 1) (by omega) g h (hI h p1 1) l4) (zG Z) rfl (by decide) (zF Z (by omega)) (zO Z (by omega) (by decide)) (zM _) Z.2.1 Z.2.1 rfl rfl ?_
    refine J_ti (fun x3 ex3 => ?_)
    replace hf := lt_i hf x3 ex3
    refine J_istore Z.1 (lv2 := [(5, .int x3), (0, va_rf (some this)), (1, va_rf (some p1)), (2, .int p2), (3, .int l3), (4, .int l4)]) dX10_rowReady_20 (zL Z (by decide)) rfl ?_
    refine J_iload_n Z.1 4 dX10_rowReady_22 rfl rfl ?_
    refine J_aload_n Z.1 1 dX10_rowReady_23 rfl rfl ?_
    refine J_get (v := va_rf (hR h this 14)) Z.1 dX10_rowReady_24 fl_X10_24 t0 rfl ?_
    refine J_tr (fun r4 er4 => ?_)
    replace hf := lt_i hf r4 er4
    refine J_iload Z.1 0 dX10_rowReady_27 rfl ?_
    replace hf := nn_i hf
    obtain ⟨a4, rfl, hf⟩ := hf
    replace hf := tg_i hf
    obtain ⟨t5, hf⟩ := hf
    replace hf := ix_i hf
    obtain ⟨i6, hf⟩ := hf
    refine J_iaload Z.1 dX10_rowReady_29 t5 i6 ?_
    refine J_callS (as := [.int l3, .int (hI h a4 (Int32.toNatClampNeg x3))]) (rest := []) (sy := [.int (pJ9_max_7cf53 l3 (hI h a4 (Int32.toNatClampNeg x3)))]) Z.1 dX10_rowReady_30 cw_X10_77 (pJ9_max_7cf53_ok G (dk - 1) (by omega) g h l3 (hI h a4 (Int32.toNatClampNeg x3))) (zG Z) rfl (by decide) (zF Z (by omega)) (zO Z (by omega) (by decide)) (zM _) Z.2.1 Z.2.1 rfl rfl ?_
    refine J_ti (fun x7 ex7 => ?_)
    replace hf := lt_i hf x7 ex7
    refine J_istore_n Z.1 (lv2 := [(3, .int x7), (5, .int x3), (0, va_rf (some this)), (1, va_rf (some p1)), (2, .int p2), (4, .int l4)]) dX10_rowReady_33 rfl (zL Z (by decide)) rfl ?_
    refine J_aload_n Z.1 3 dX10_rowReady_34 rfl rfl ?_
    refine J_get (v := va_rf (hR h p1 0)) Z.1 dX10_rowReady_35 fl_X10_86 t2 rfl ?_
    refine J_tr (fun r8 er8 => ?_)
    replace hf := lt_i hf r8 er8
    replace hf := kR_i hf
    obtain ⟨a9, ea9, hf⟩ := hf
    refine J_gets (i := 26) (v := va_rf (some a9)) Z.1 dX10_rowReady_38 rfl q_1012 (zEv Z hE ea9) rfl ?_
    refine J_acmp_ne Z.1 56 dX10_rowReady_41 (by decide) (fun c10 => ?_) (fun c10 => ?_)
    · rw [if_neg c10] at hf
      refine J_lv [2, 3, 4, 0, 5] rfl ?_
      exact pX10_rowReady_b56_ok Z hK hE t0 hk5 _ _ hf
    · rw [if_pos c10] at hf
      refine J_iload_n Z.1 0 dX10_rowReady_44 rfl rfl ?_
      refine J_aload_n Z.1 2 dX10_rowReady_45 rfl rfl ?_
      refine J_get (v := va_rf (hR h this 15)) Z.1 dX10_rowReady_46 fl_X10_27 t0 rfl ?_
      refine J_tr (fun r11 er11 => ?_)
      replace hf := lt_i hf r11 er11
      refine J_iload Z.1 1 dX10_rowReady_49 rfl ?_
      replace hf := nn_i hf
      obtain ⟨a11, rfl, hf⟩ := hf
      replace hf := tg_i hf
      obtain ⟨t12, hf⟩ := hf
      replace hf := ix_i hf
      obtain ⟨i13, hf⟩ := hf
      refine J_iaload Z.1 dX10_rowReady_51 t12 i13 ?_
      refine J_callS (as := [.int x7, .int (hI h a11 (Int32.toNatClampNeg x3))]) (rest := []) (sy := [.int (pJ9_max_7cf53 x7 (hI h a11 (Int32.toNatClampNeg x3)))]) Z.1 dX10_rowReady_52 cw_X10_77 (pJ9_max_7cf53_ok G (dk - 1) (by omega) g h x7 (hI h a11 (Int32.toNatClampNeg x3))) (zG Z) rfl (by decide) (zF Z (by omega)) (zO Z (by omega) (by decide)) (zM _) Z.2.1 Z.2.1 rfl rfl ?_
      refine J_ti (fun x14 ex14 => ?_)
      replace hf := lt_i hf x14 ex14
      refine J_istore_n Z.1 (lv2 := [(3, .int x14), (5, .int x3), (0, va_rf (some this)), (1, va_rf (some p1)), (2, .int p2), (4, .int l4)]) dX10_rowReady_55 rfl (zL Z (by decide)) rfl ?_
      refine J_lv [2, 3, 4, 0, 5] rfl ?_
      exact pX10_rowReady_b56_ok Z hK hE t0 hk5 _ _ hf
def pX10_rowReady_l5 (E : EC) (g : MT) (h : CT) (this : Nat) (p1 : Nat) (p2 : Int32) : Nat → Int32 → Int32 → Option Int32
  | 0, _, _ => none
  | n + 1, l3, l4 => pX10_rowReady_b5 E g h this p1 p2 (pX10_rowReady_l5 E g h this p1 p2 n) l3 l4
theorem pX10_rowReady_l5_ok {X : Cx} {G : Gx} {dk : Nat} {g : MT} {r0 : Int32} {h : CT} {this : Nat} {p1 : Nat} {p2 : Int32} (Z : Zx X G cX10_rowReady RX10 6 dk (some .int) (some (.int r0)) g h) (hK : 1 ≤ dk) {E : EC} (hE : G.2.2.2 = E) (t0 : gT g this = 9) : ∀ (n : Nat) (l3 : Int32) (l4 : Int32), pX10_rowReady_l5 E g h this p1 p2 n l3 l4 = some r0 → J X g h 5 [(0, va_rf (some this)), (1, va_rf (some p1)), (2, .int p2), (3, .int l3), (4, .int l4)] [] := by
  intro n
  induction n with
  | zero => intro l3 l4 hf; cases hf
  | succ n ih => intro l3 l4 hf; exact pX10_rowReady_b5_ok Z hK hE t0 ih l3 l4 hf
def pX10_rowReady (E : EC) (g : MT) (h : CT) (this : Nat) (p1 : Nat) (p2 : Int32) : Option Int32 := tg g this 9 (pX10_rowReady_l5 E g h this p1 p2  FUEL 0 0)
set_option maxRecDepth 10000 in
set_option maxHeartbeats 4000000 in
theorem pX10_rowReady_ok (G : Gx) (dk : Nat) (hK : 1 ≤ dk) {g : MT} {E : EC} (hE : G.2.2.2 = E) {h : CT} {this : Nat} {p1 : Nat} {p2 : Int32} {r0 : Int32} (hf : pX10_rowReady E g h this p1 p2 = some r0) : Ctr G dk yX10_rowReady cX10_rowReady 6 (some .int) [va_rf (some this), va_rf (some p1), .int p2] g h (some (.int r0)) g h := by
  refine Ctr.ofZ (lv := [(0, va_rf (some this)), (1, va_rf (some p1)), (2, .int p2)]) (by decide +kernel) (by simp [cat_i, cat_l, cat_d, cat_rf]) rfl fun X Z => ?_
  unfold pX10_rowReady at hf
  replace hf := tg_i hf
  obtain ⟨t0, hf⟩ := hf
  refine J_iconst Z.1 (v := 0) (by decide) dX10_rowReady_0 ?_
  refine J_istore_n Z.1 (lv2 := [(3, .int 0), (0, va_rf (some this)), (1, va_rf (some p1)), (2, .int p2)]) dX10_rowReady_1 rfl (zL Z (by decide)) rfl ?_
  refine J_iconst Z.1 (v := 0) (by decide) dX10_rowReady_2 ?_
  refine J_istore Z.1 (lv2 := [(4, .int 0), (3, .int 0), (0, va_rf (some this)), (1, va_rf (some p1)), (2, .int p2)]) dX10_rowReady_3 (zL Z (by decide)) rfl ?_
  refine J_lv [2, 3, 4, 1, 0] rfl ?_
  exact pX10_rowReady_l5_ok Z hK hE t0  FUEL _ _ hf
theorem dX10_endAt_0 : decode cX10_endAt 0 = .ok (.aload_n 0, 1) := by decide +kernel
theorem dX10_endAt_1 : decode cX10_endAt 1 = .ok (.iload_n 2, 1) := by decide +kernel
theorem dX10_endAt_2 : decode cX10_endAt 2 = .ok (.invokevirtual 82, 3) := by decide +kernel
theorem dX10_endAt_5 : decode cX10_endAt 5 = .ok (.iload_n 1, 1) := by decide +kernel
theorem dX10_endAt_6 : decode cX10_endAt 6 = .ok (.ifCond .lt 19, 3) := by decide +kernel
theorem dX10_endAt_9 : decode cX10_endAt 9 = .ok (.iload_n 1, 1) := by decide +kernel
theorem dX10_endAt_10 : decode cX10_endAt 10 = .ok (.aload_n 0, 1) := by decide +kernel
theorem dX10_endAt_11 : decode cX10_endAt 11 = .ok (.getfield 15, 3) := by decide +kernel
theorem dX10_endAt_14 : decode cX10_endAt 14 = .ok (.arraylength, 1) := by decide +kernel
theorem dX10_endAt_15 : decode cX10_endAt 15 = .ok (.if_icmp .ge 10, 3) := by decide +kernel
theorem dX10_endAt_18 : decode cX10_endAt 18 = .ok (.aload_n 0, 1) := by decide +kernel
theorem dX10_endAt_19 : decode cX10_endAt 19 = .ok (.getfield 15, 3) := by decide +kernel
theorem dX10_endAt_22 : decode cX10_endAt 22 = .ok (.iload_n 1, 1) := by decide +kernel
theorem dX10_endAt_23 : decode cX10_endAt 23 = .ok (.iload_n 2, 1) := by decide +kernel
theorem dX10_endAt_24 : decode cX10_endAt 24 = .ok (.iastore, 1) := by decide +kernel
theorem dX10_endAt_25 : decode cX10_endAt 25 = .ok (.return_, 1) := by decide +kernel
def pX10_endAt (g : MT) (h : CT) (this : Nat) (p1 : Int32) (p2 : Int32) : Option CT := tg g this 9 (bd (pX10_note g h this p2) fun h1 => (if p1 < 0 then some h1 else lt (hR h1 this 7) fun r4 => (nn r4 fun a4 => (tg g a4 20 (if (Int32.ofNat (gL g a4)) ≤ p1 then some h1 else lt (hR h1 this 7) fun r7 => (nn r7 fun a7 => (tg g a7 20 (ix (gL g a7) p1 (lt (sI h1 a7 (Int32.toNatClampNeg p1) p2) fun h10 => (some h10))))))))))
set_option maxRecDepth 10000 in
set_option maxHeartbeats 4000000 in
theorem pX10_endAt_ok (G : Gx) (dk : Nat) (hK : 1 ≤ dk) {g : MT} {h h0 : CT} {this : Nat} {p1 : Int32} {p2 : Int32} (hf : pX10_endAt g h this p1 p2 = some h0) : Ctr G dk yX10_endAt cX10_endAt 3 none [va_rf (some this), .int p1, .int p2] g h none g h0 := by
  refine Ctr.ofZ (lv := [(0, va_rf (some this)), (1, .int p1), (2, .int p2)]) (by decide +kernel) (by simp [cat_i, cat_l, cat_d, cat_rf]) rfl fun X Z => ?_
  unfold pX10_endAt at hf
  replace hf := tg_i hf
  obtain ⟨t0, hf⟩ := hf
  refine J_aload_n Z.1 0 dX10_endAt_0 rfl rfl ?_
  refine J_iload_n Z.1 2 dX10_endAt_1 rfl rfl ?_
  replace hf := bd_i hf
  obtain ⟨h1, q2, hf⟩ := hf
  refine J_callV (ci := 8) (as := [.int p2]) (rest := []) (sy := []) Z.1 dX10_endAt_2 cw_X10_82 (pX10_note_ok G (dk - 1) (by omega) q2) rfl rfl t0 (zG Z) rfl (by decide) (zF Z (by omega)) (zO Z (by omega) (by decide)) (zM _) Z.2.1 Z.2.1 rfl rfl ?_
  refine J_iload_n Z.1 1 dX10_endAt_5 rfl rfl ?_
  refine J_if_lt Z.1 25 dX10_endAt_6 (by decide) (fun c3 => ?_) (fun c3 => ?_)
  · rw [if_pos c3] at hf
    cases hf
    exact J_vret Z.1 Z.2.2.2.2.2 dX10_endAt_25
  · rw [if_neg c3] at hf
    refine J_iload_n Z.1 1 dX10_endAt_9 rfl rfl ?_
    refine J_aload_n Z.1 0 dX10_endAt_10 rfl rfl ?_
    refine J_get (v := va_rf (hR h1 this 7)) Z.1 dX10_endAt_11 fl_X10_15 t0 rfl ?_
    refine J_tr (fun r4 er4 => ?_)
    replace hf := lt_i hf r4 er4
    replace hf := nn_i hf
    obtain ⟨a4, rfl, hf⟩ := hf
    replace hf := tg_i hf
    obtain ⟨t5, hf⟩ := hf
    refine J_alen (t := 0) Z.1 dX10_endAt_14 t5 rfl ?_
    refine J_icmp_ge Z.1 25 dX10_endAt_15 (by decide) (fun c6 => ?_) (fun c6 => ?_)
    · rw [if_pos c6] at hf
      cases hf
      exact J_vret Z.1 Z.2.2.2.2.2 dX10_endAt_25
    · rw [if_neg c6] at hf
      refine J_aload_n Z.1 0 dX10_endAt_18 rfl rfl ?_
      refine J_get (v := va_rf (hR h1 this 7)) Z.1 dX10_endAt_19 fl_X10_15 t0 rfl ?_
      refine J_tr (fun r7 er7 => ?_)
      replace hf := lt_i hf r7 er7
      refine J_iload_n Z.1 1 dX10_endAt_22 rfl rfl ?_
      refine J_iload_n Z.1 2 dX10_endAt_23 rfl rfl ?_
      replace hf := nn_i hf
      obtain ⟨a7, rfl, hf⟩ := hf
      replace hf := tg_i hf
      obtain ⟨t8, hf⟩ := hf
      replace hf := ix_i hf
      obtain ⟨i9, hf⟩ := hf
      refine J_iastore Z.1 dX10_endAt_24 t8 i9 ?_
      refine J_th (fun h10 eh10 => ?_)
      replace hf := lt_i hf h10 eh10
      cases hf
      exact J_vret Z.1 Z.2.2.2.2.2 dX10_endAt_25
