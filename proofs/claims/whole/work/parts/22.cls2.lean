/-! written by wip/whole/gen.py out of the printed bytecode -/
theorem dX8_copyFrom_0 : decode cX8_copyFrom 0 = .ok (.aload_n 1, 1) := by decide +kernel
theorem dX8_copyFrom_1 : decode cX8_copyFrom 1 = .ok (.getfield 13, 3) := by decide +kernel
theorem dX8_copyFrom_4 : decode cX8_copyFrom 4 = .ok (.iconst 0, 1) := by decide +kernel
theorem dX8_copyFrom_5 : decode cX8_copyFrom 5 = .ok (.aload_n 0, 1) := by decide +kernel
theorem dX8_copyFrom_6 : decode cX8_copyFrom 6 = .ok (.getfield 13, 3) := by decide +kernel
theorem dX8_copyFrom_9 : decode cX8_copyFrom 9 = .ok (.iconst 0, 1) := by decide +kernel
theorem dX8_copyFrom_10 : decode cX8_copyFrom 10 = .ok (.aload_n 0, 1) := by decide +kernel
theorem dX8_copyFrom_11 : decode cX8_copyFrom 11 = .ok (.getfield 13, 3) := by decide +kernel
theorem dX8_copyFrom_14 : decode cX8_copyFrom 14 = .ok (.arraylength, 1) := by decide +kernel
theorem dX8_copyFrom_15 : decode cX8_copyFrom 15 = .ok (.aload_n 1, 1) := by decide +kernel
theorem dX8_copyFrom_16 : decode cX8_copyFrom 16 = .ok (.getfield 13, 3) := by decide +kernel
theorem dX8_copyFrom_19 : decode cX8_copyFrom 19 = .ok (.arraylength, 1) := by decide +kernel
theorem dX8_copyFrom_20 : decode cX8_copyFrom 20 = .ok (.invokestatic 32, 3) := by decide +kernel
theorem dX8_copyFrom_23 : decode cX8_copyFrom 23 = .ok (.invokestatic 35, 3) := by decide +kernel
theorem dX8_copyFrom_26 : decode cX8_copyFrom 26 = .ok (.iconst 0, 1) := by decide +kernel
theorem dX8_copyFrom_27 : decode cX8_copyFrom 27 = .ok (.istore_n 2, 1) := by decide +kernel
theorem dX8_copyFrom_28 : decode cX8_copyFrom 28 = .ok (.iload_n 2, 1) := by decide +kernel
theorem dX8_copyFrom_29 : decode cX8_copyFrom 29 = .ok (.aload_n 0, 1) := by decide +kernel
theorem dX8_copyFrom_30 : decode cX8_copyFrom 30 = .ok (.getfield 19, 3) := by decide +kernel
theorem dX8_copyFrom_33 : decode cX8_copyFrom 33 = .ok (.arraylength, 1) := by decide +kernel
theorem dX8_copyFrom_34 : decode cX8_copyFrom 34 = .ok (.if_icmp .ge 30, 3) := by decide +kernel
theorem dX8_copyFrom_37 : decode cX8_copyFrom 37 = .ok (.iload_n 2, 1) := by decide +kernel
theorem dX8_copyFrom_38 : decode cX8_copyFrom 38 = .ok (.aload_n 1, 1) := by decide +kernel
theorem dX8_copyFrom_39 : decode cX8_copyFrom 39 = .ok (.getfield 19, 3) := by decide +kernel
theorem dX8_copyFrom_42 : decode cX8_copyFrom 42 = .ok (.arraylength, 1) := by decide +kernel
theorem dX8_copyFrom_43 : decode cX8_copyFrom 43 = .ok (.if_icmp .ge 21, 3) := by decide +kernel
theorem dX8_copyFrom_46 : decode cX8_copyFrom 46 = .ok (.aload_n 0, 1) := by decide +kernel
theorem dX8_copyFrom_47 : decode cX8_copyFrom 47 = .ok (.getfield 19, 3) := by decide +kernel
theorem dX8_copyFrom_50 : decode cX8_copyFrom 50 = .ok (.iload_n 2, 1) := by decide +kernel
theorem dX8_copyFrom_51 : decode cX8_copyFrom 51 = .ok (.aload_n 1, 1) := by decide +kernel
theorem dX8_copyFrom_52 : decode cX8_copyFrom 52 = .ok (.getfield 19, 3) := by decide +kernel
theorem dX8_copyFrom_55 : decode cX8_copyFrom 55 = .ok (.iload_n 2, 1) := by decide +kernel
theorem dX8_copyFrom_56 : decode cX8_copyFrom 56 = .ok (.baload, 1) := by decide +kernel
theorem dX8_copyFrom_57 : decode cX8_copyFrom 57 = .ok (.bastore, 1) := by decide +kernel
theorem dX8_copyFrom_58 : decode cX8_copyFrom 58 = .ok (.iinc 2 1, 3) := by decide +kernel
theorem dX8_copyFrom_61 : decode cX8_copyFrom 61 = .ok (.goto (-33), 3) := by decide +kernel
theorem dX8_copyFrom_64 : decode cX8_copyFrom 64 = .ok (.return_, 1) := by decide +kernel
def pX8_copyFrom_b28 (g : MT) (this : Nat) (p1 : Nat) (k28 : Int32 → CT → Option CT) (l2 : Int32) (h : CT) : Option CT := lt (hR h this 1) fun r1 => (nn r1 fun a1 => (tg g a1 24 (if (Int32.ofNat (gL g a1)) ≤ l2 then some h else tg g p1 7 (lt (hR h p1 1) fun r5 => (nn r5 fun a5 => (tg g a5 24 (if (Int32.ofNat (gL g a5)) ≤ l2 then some h else lt (hR h this 1) fun r8 => (lt (hR h p1 1) fun r9 => (nn r9 fun a9 => (tg g a9 24 (ix (gL g a9) l2 (nn r8 fun a8 => (tg g a8 24 (ix (gL g a8) l2 (lt (sI h a8 (Int32.toNatClampNeg l2) (vp_nar .boolean (hI h a9 (Int32.toNatClampNeg l2)))) fun h14 => (lt (l2 + 1) fun x15 => (k28 x15 h14)))))))))))))))))
set_option maxRecDepth 10000 in
set_option maxHeartbeats 4000000 in
theorem pX8_copyFrom_b28_ok {X : Cx} {G : Gx} {dk : Nat} {g : MT} {h0 : CT} {this : Nat} {p1 : Nat} {k28 : Int32 → CT → Option CT} (Z : Zx X G cX8_copyFrom RX8 3 dk none none g h0) (hK : 1 ≤ dk) (t0 : gT g this = 7) (hk28 : ∀ (l2 : Int32) (h : CT), k28 l2 h = some h0 → J X g h 28 [(0, va_rf (some this)), (1, va_rf (some p1)), (2, .int l2)] []) (l2 : Int32) (h : CT) (hf : pX8_copyFrom_b28 g this p1 k28 l2 h = some h0) : J X g h 28 [(0, va_rf (some this)), (1, va_rf (some p1)), (2, .int l2)] [] := by
  unfold pX8_copyFrom_b28 at hf
  refine J_iload_n Z.1 2 dX8_copyFrom_28 rfl rfl ?_
  refine J_aload_n Z.1 0 dX8_copyFrom_29 rfl rfl ?_
  refine J_get (v := va_rf (hR h this 1)) Z.1 dX8_copyFrom_30 fl_X8_19 t0 rfl ?_
  refine J_tr (fun r1 er1 => ?_)
  replace hf := lt_i hf r1 er1
  replace hf := nn_i hf
  obtain ⟨a1, rfl, hf⟩ := hf
  replace hf := tg_i hf
  obtain ⟨t2, hf⟩ := hf
  refine J_alen (t := 4) Z.1 dX8_copyFrom_33 t2 rfl ?_
  refine J_icmp_ge Z.1 64 dX8_copyFrom_34 (by decide) (fun c3 => ?_) (fun c3 => ?_)
  · rw [if_pos c3] at hf
    cases hf
    exact J_vret Z.1 Z.2.2.2.2.2 dX8_copyFrom_64
  · rw [if_neg c3] at hf
    refine J_iload_n Z.1 2 dX8_copyFrom_37 rfl rfl ?_
    refine J_aload_n Z.1 1 dX8_copyFrom_38 rfl rfl ?_
    replace hf := tg_i hf
    obtain ⟨t4, hf⟩ := hf
    refine J_get (v := va_rf (hR h p1 1)) Z.1 dX8_copyFrom_39 fl_X8_19 t4 rfl ?_
    refine J_tr (fun r5 er5 => ?_)
    replace hf := lt_i hf r5 er5
    replace hf := nn_i hf
    obtain ⟨a5, rfl, hf⟩ := hf
    replace hf := tg_i hf
    obtain ⟨t6, hf⟩ := hf
    refine J_alen (t := 4) Z.1 dX8_copyFrom_42 t6 rfl ?_
    refine J_icmp_ge Z.1 64 dX8_copyFrom_43 (by decide) (fun c7 => ?_) (fun c7 => ?_)
    · rw [if_pos c7] at hf
      cases hf
      exact J_vret Z.1 Z.2.2.2.2.2 dX8_copyFrom_64
    · rw [if_neg c7] at hf
      refine J_aload_n Z.1 0 dX8_copyFrom_46 rfl rfl ?_
      refine J_get (v := va_rf (hR h this 1)) Z.1 dX8_copyFrom_47 fl_X8_19 t0 rfl ?_
      refine J_tr (fun r8 er8 => ?_)
      replace hf := lt_i hf r8 er8
      refine J_iload_n Z.1 2 dX8_copyFrom_50 rfl rfl ?_
      refine J_aload_n Z.1 1 dX8_copyFrom_51 rfl rfl ?_
      refine J_get (v := va_rf (hR h p1 1)) Z.1 dX8_copyFrom_52 fl_X8_19 t4 rfl ?_
      refine J_tr (fun r9 er9 => ?_)
      replace hf := lt_i hf r9 er9
      refine J_iload_n Z.1 2 dX8_copyFrom_55 rfl rfl ?_
      replace hf := nn_i hf
      obtain ⟨a9, rfl, hf⟩ := hf
      replace hf := tg_i hf
      obtain ⟨t10, hf⟩ := hf
      replace hf := ix_i hf
      obtain ⟨i11, hf⟩ := hf
      refine J_zaload Z.1 dX8_copyFrom_56 t10 i11 ?_
      replace hf := nn_i hf
      obtain ⟨a8, rfl, hf⟩ := hf
      replace hf := tg_i hf
      obtain ⟨t12, hf⟩ := hf
      replace hf := ix_i hf
      obtain ⟨i13, hf⟩ := hf
      refine J_zastore Z.1 dX8_copyFrom_57 t12 i13 ?_
      refine J_th (fun h14 eh14 => ?_)
      replace hf := lt_i hf h14 eh14
      refine J_iinc Z.1 (v := 1) (lv2 := [(2, .int (l2 + 1)), (0, va_rf (some this)), (1, va_rf (some p1))]) 2 dX8_copyFrom_58 rfl (by decide) (zL Z (by decide)) rfl ?_
      obtain ⟨x15, ex15⟩ : ∃ z, z = (l2 + 1) := ⟨_, rfl⟩
      replace hf := lt_i hf x15 ex15
      rw [← ex15]
      refine J_goto Z.1 28 dX8_copyFrom_61 (by decide) ?_
      refine J_lv [1, 2, 0] rfl ?_
      exact hk28 _ _ hf
def pX8_copyFrom_l28 (g : MT) (this : Nat) (p1 : Nat) : Nat → Int32 → CT → Option CT
  | 0, _, _ => none
  | n + 1, l2, h => pX8_copyFrom_b28 g this p1 (pX8_copyFrom_l28 g this p1 n) l2 h
theorem pX8_copyFrom_l28_ok {X : Cx} {G : Gx} {dk : Nat} {g : MT} {h0 : CT} {this : Nat} {p1 : Nat} (Z : Zx X G cX8_copyFrom RX8 3 dk none none g h0) (hK : 1 ≤ dk) (t0 : gT g this = 7) : ∀ (n : Nat) (l2 : Int32) (h : CT), pX8_copyFrom_l28 g this p1 n l2 h = some h0 → J X g h 28 [(0, va_rf (some this)), (1, va_rf (some p1)), (2, .int l2)] [] := by
  intro n
  induction n with
  | zero => intro l2 h hf; cases hf
  | succ n ih => intro l2 h hf; exact pX8_copyFrom_b28_ok Z hK t0 ih l2 h hf
def pX8_copyFrom (g : MT) (h : CT) (this : Nat) (p1 : Nat) : Option CT := tg g this 7 (tg g p1 7 (lt (hR h p1 0) fun r2 => (lt (hR h this 0) fun r3 => (lt (hR h this 0) fun r4 => (nn r4 fun a4 => (tg g a4 22 (lt (hR h p1 0) fun r6 => (nn r6 fun a6 => (tg g a6 22 (nn r2 fun a2 => (nn r3 fun a3 => (tg g a2 22 (tg g a3 22 (cpk 0 0 (pJ9_min_7cf53 (Int32.ofNat (gL g a4)) (Int32.ofNat (gL g a6))) (gL g a2) (gL g a3) (lt (cpD h a2 a3 (Int32.toNatClampNeg 0) (Int32.toNatClampNeg 0) (Int32.toNatClampNeg (pJ9_min_7cf53 (Int32.ofNat (gL g a4)) (Int32.ofNat (gL g a6))))) fun h11 => (pX8_copyFrom_l28 g this p1  FUEL 0 h11))))))))))))))))
set_option maxRecDepth 10000 in
set_option maxHeartbeats 4000000 in
theorem pX8_copyFrom_ok (G : Gx) (dk : Nat) (hK : 1 ≤ dk) {g : MT} {h h0 : CT} {this : Nat} {p1 : Nat} (hf : pX8_copyFrom g h this p1 = some h0) : Ctr G dk yX8_copyFrom cX8_copyFrom 3 none [va_rf (some this), va_rf (some p1)] g h none g h0 := by
  refine Ctr.ofZ (lv := [(0, va_rf (some this)), (1, va_rf (some p1))]) (by decide +kernel) (by simp [cat_i, cat_l, cat_d, cat_rf]) rfl fun X Z => ?_
  unfold pX8_copyFrom at hf
  replace hf := tg_i hf
  obtain ⟨t0, hf⟩ := hf
  refine J_aload_n Z.1 1 dX8_copyFrom_0 rfl rfl ?_
  replace hf := tg_i hf
  obtain ⟨t1, hf⟩ := hf
  refine J_get (v := va_rf (hR h p1 0)) Z.1 dX8_copyFrom_1 fl_X8_13 t1 rfl ?_
  refine J_tr (fun r2 er2 => ?_)
  replace hf := lt_i hf r2 er2
  refine J_iconst Z.1 (v := 0) (by decide) dX8_copyFrom_4 ?_
  refine J_aload_n Z.1 0 dX8_copyFrom_5 rfl rfl ?_
  refine J_get (v := va_rf (hR h this 0)) Z.1 dX8_copyFrom_6 fl_X8_13 t0 rfl ?_
  refine J_tr (fun r3 er3 => ?_)
  replace hf := lt_i hf r3 er3
  refine J_iconst Z.1 (v := 0) (by decide) dX8_copyFrom_9 ?_
  refine J_aload_n Z.1 0 dX8_copyFrom_10 rfl rfl ?_
  refine J_get (v := va_rf (hR h this 0)) Z.1 dX8_copyFrom_11 fl_X8_13 t0 rfl ?_
  refine J_tr (fun r4 er4 => ?_)
  replace hf := lt_i hf r4 er4
  replace hf := nn_i hf
  obtain ⟨a4, rfl, hf⟩ := hf
  replace hf := tg_i hf
  obtain ⟨t5, hf⟩ := hf
  refine J_alen (t := 2) Z.1 dX8_copyFrom_14 t5 rfl ?_
  refine J_aload_n Z.1 1 dX8_copyFrom_15 rfl rfl ?_
  refine J_get (v := va_rf (hR h p1 0)) Z.1 dX8_copyFrom_16 fl_X8_13 t1 rfl ?_
  refine J_tr (fun r6 er6 => ?_)
  replace hf := lt_i hf r6 er6
  replace hf := nn_i hf
  obtain ⟨a6, rfl, hf⟩ := hf
  replace hf := tg_i hf
  obtain ⟨t7, hf⟩ := hf
  refine J_alen (t := 2) Z.1 dX8_copyFrom_19 t7 rfl ?_
  refine J_callS (as := [.int (Int32.ofNat (gL g a4)), .int (Int32.ofNat (gL g a6))]) (rest := [.int 0, va_rf r3, .int 0, va_rf r2]) (sy := [.int (pJ9_min_7cf53 (Int32.ofNat (gL g a4)) (Int32.ofNat (gL g a6))), .int 0, va_rf r3, .int 0, va_rf r2]) Z.1 dX8_copyFrom_20 cw_X8_32 (pJ9_min_7cf53_ok G (dk - 1) (by omega) g h (Int32.ofNat (gL g a4)) (Int32.ofNat (gL g a6))) (zG Z) rfl (by simp [cat_i, cat_l, cat_d, cat_rf]) (zF Z (by omega)) (zO Z (by omega) (by decide)) (zM _) Z.2.1 Z.2.1 rfl rfl ?_
  replace hf := nn_i hf
  obtain ⟨a2, rfl, hf⟩ := hf
  replace hf := nn_i hf
  obtain ⟨a3, rfl, hf⟩ := hf
  replace hf := tg_i hf
  obtain ⟨t8, hf⟩ := hf
  replace hf := tg_i hf
  obtain ⟨t9, hf⟩ := hf
  replace hf := cpk_i hf
  obtain ⟨z10, hf⟩ := hf
  refine J_copyD Z.1 dX8_copyFrom_23 q_1087 q_631 q_630 q_150 t8 t9 z10.1 z10.2.1 z10.2.2.1 z10.2.2.2.1 z10.2.2.2.2 (zF Z (d := 0) (by omega)) (zO4 Z (by omega) (by simp [cat_i, cat_l, cat_d, cat_rf])) ?_
  refine J_th (fun h11 eh11 => ?_)
  replace hf := lt_i hf h11 eh11
  refine J_iconst Z.1 (v := 0) (by decide) dX8_copyFrom_26 ?_
  refine J_istore_n Z.1 (lv2 := [(2, .int 0), (0, va_rf (some this)), (1, va_rf (some p1))]) dX8_copyFrom_27 rfl (zL Z (by decide)) rfl ?_
  refine J_lv [1, 2, 0] rfl ?_
  exact pX8_copyFrom_l28_ok Z hK t0  FUEL _ _ hf
theorem dX11_init_0 : decode cX11_init 0 = .ok (.aload_n 0, 1) := by decide +kernel
theorem dX11_init_1 : decode cX11_init 1 = .ok (.invokespecial 3, 3) := by decide +kernel
theorem dX11_init_4 : decode cX11_init 4 = .ok (.aload_n 0, 1) := by decide +kernel
theorem dX11_init_5 : decode cX11_init 5 = .ok (.bipush 60, 2) := by decide +kernel
theorem dX11_init_7 : decode cX11_init 7 = .ok (.newarray .long, 2) := by decide +kernel
theorem dX11_init_9 : decode cX11_init 9 = .ok (.putfield 9, 3) := by decide +kernel
theorem dX11_init_12 : decode cX11_init 12 = .ok (.return_, 1) := by decide +kernel
def pX11_init (g : MT) (h : CT) (this : Nat) : Option (MT × CT) := gq Prod.fst g (gq Prod.fst (gA g 21 60) (lt (gA g 21 60) fun g1 => (lt (hZ h (gN g)) fun h2 => (lt (gN g) fun a3 => (tg g1 this 10 (lt (sR h2 this 3 (some a3)) fun h7 => (some (g1, h7))))))))
theorem pX11_init_mono {g g0 : MT} {h h0 : CT} {this : Nat} (hf : pX11_init g h this = some (g0, h0)) : gN g ≤ gN g0 ∧ gU g ≤ gU g0 := by
  unfold pX11_init at hf
  exact (gq_i hf).1
set_option maxRecDepth 10000 in
set_option maxHeartbeats 4000000 in
theorem pX11_init_ok (G : Gx) (dk : Nat) (hK : 1 ≤ dk) {g g0 : MT} {h h0 : CT} {this : Nat} (hf : pX11_init g h this = some (g0, h0)) : Ctr G dk yX11_init cX11_init 1 none [va_rf (some this)] g h none g0 h0 := by
  unfold pX11_init at hf
  replace hf := gq_i hf
  obtain ⟨hm, hf⟩ := hf
  refine Ctr.ofY (lv := [(0, va_rf (some this))]) (by decide +kernel) (by simp [cat_i, cat_l, cat_d, cat_rf]) rfl hm fun X Z M => ?_
  refine J_aload_n Z.1 0 dX11_init_0 rfl rfl ?_
  refine J_objInit Z.1 dX11_init_1 q_176 q_168 q_169 (yO2 Z (by omega) (by simp [cat_i, cat_l, cat_d, cat_rf])) (yF Z (d := 0) (by omega)) ?_
  refine J_aload_n Z.1 0 dX11_init_4 rfl rfl ?_
  refine J_bipush Z.1 (v := 60) (by decide) dX11_init_5 ?_
  replace hf := gq_i hf
  obtain ⟨n4, hf⟩ := hf
  have M5 := rmA Z M n4
  refine J_newa (t := 1) (N := 60) .long Z.1 dX11_init_7 rfl rfl (by decide) (fun _ q => by cases q) q_194 (by decide) (by decide) (by decide) M M5 ?_
  refine J_tg (fun g1 eg1 => ?_)
  rw [← eg1] at M5
  replace hf := lt_i hf g1 eg1
  refine J_th (fun h2 eh2 => ?_)
  replace hf := lt_i hf h2 eh2
  refine J_ta (fun a3 ea3 => ?_)
  replace hf := lt_i hf a3 ea3
  replace hf := tg_i hf
  obtain ⟨t6, hf⟩ := hf
  refine J_putR Z.1 dX11_init_9 fl_X11_9 (fun _ => ⟨Z.2.2.2.2.2.2.2, _, rfl, rfl⟩) t6 (Or.inr ⟨_, rfl⟩) ?_
  refine J_th (fun h7 eh7 => ?_)
  replace hf := lt_i hf h7 eh7
  cases hf
  exact J_vret Z.1 Z.2.2.2.2.1 dX11_init_12
theorem dX11_begin_0 : decode cX11_begin 0 = .ok (.aload_n 0, 1) := by decide +kernel
theorem dX11_begin_1 : decode cX11_begin 1 = .ok (.iconst 1, 1) := by decide +kernel
theorem dX11_begin_2 : decode cX11_begin 2 = .ok (.putfield 15, 3) := by decide +kernel
theorem dX11_begin_5 : decode cX11_begin 5 = .ok (.aload_n 0, 1) := by decide +kernel
theorem dX11_begin_6 : decode cX11_begin 6 = .ok (.iload_n 1, 1) := by decide +kernel
theorem dX11_begin_7 : decode cX11_begin 7 = .ok (.putfield 19, 3) := by decide +kernel
theorem dX11_begin_10 : decode cX11_begin 10 = .ok (.aload_n 0, 1) := by decide +kernel
theorem dX11_begin_11 : decode cX11_begin 11 = .ok (.iload_n 2, 1) := by decide +kernel
theorem dX11_begin_12 : decode cX11_begin 12 = .ok (.putfield 23, 3) := by decide +kernel
theorem dX11_begin_15 : decode cX11_begin 15 = .ok (.aload_n 0, 1) := by decide +kernel
theorem dX11_begin_16 : decode cX11_begin 16 = .ok (.getfield 9, 3) := by decide +kernel
theorem dX11_begin_19 : decode cX11_begin 19 = .ok (.lconst 0, 1) := by decide +kernel
theorem dX11_begin_20 : decode cX11_begin 20 = .ok (.invokestatic 26, 3) := by decide +kernel
theorem dX11_begin_23 : decode cX11_begin 23 = .ok (.return_, 1) := by decide +kernel
def pX11_begin (g : MT) (h : CT) (this : Nat) (p1 : Int32) (p2 : Int32) : Option CT := tg g this 10 (lt (sI h this 0 1) fun h1 => (lt (sI h1 this 1 p1) fun h2 => (lt (sI h2 this 2 p2) fun h3 => (lt (hR h3 this 3) fun r4 => (nn r4 fun a4 => (bd (pJ7_fill_d0a16 g h3 a4 0) fun h5 => (some h5)))))))
set_option maxRecDepth 10000 in
set_option maxHeartbeats 4000000 in
theorem pX11_begin_ok (G : Gx) (dk : Nat) (hK : 1 ≤ dk) {g : MT} {h h0 : CT} {this : Nat} {p1 : Int32} {p2 : Int32} (hf : pX11_begin g h this p1 p2 = some h0) : Ctr G dk yX11_begin cX11_begin 3 none [va_rf (some this), .int p1, .int p2] g h none g h0 := by
  refine Ctr.ofZ (lv := [(0, va_rf (some this)), (1, .int p1), (2, .int p2)]) (by decide +kernel) (by simp [cat_i, cat_l, cat_d, cat_rf]) rfl fun X Z => ?_
  unfold pX11_begin at hf
  replace hf := tg_i hf
  obtain ⟨t0, hf⟩ := hf
  refine J_aload_n Z.1 0 dX11_begin_0 rfl rfl ?_
  refine J_iconst Z.1 (v := 1) (by decide) dX11_begin_1 ?_
  refine J_putI Z.1 dX11_begin_2 fl_X11_15 (fun q => by cases q) t0 (z_n (Or.inr rfl)) (z_f (Or.inr rfl)) (congrArg Value.int (hI_s _ _ _ _)) ?_
  refine J_th (fun h1 eh1 => ?_)
  replace hf := lt_i hf h1 eh1
  refine J_aload_n Z.1 0 dX11_begin_5 rfl rfl ?_
  refine J_iload_n Z.1 1 dX11_begin_6 rfl rfl ?_
  refine J_putI Z.1 dX11_begin_7 fl_X11_19 (fun q => by cases q) t0 rfl rfl (congrArg Value.int (hI_s _ _ _ _)) ?_
  refine J_th (fun h2 eh2 => ?_)
  replace hf := lt_i hf h2 eh2
  refine J_aload_n Z.1 0 dX11_begin_10 rfl rfl ?_
  refine J_iload_n Z.1 2 dX11_begin_11 rfl rfl ?_
  refine J_putI Z.1 dX11_begin_12 fl_X11_23 (fun q => by cases q) t0 rfl rfl (congrArg Value.int (hI_s _ _ _ _)) ?_
  refine J_th (fun h3 eh3 => ?_)
  replace hf := lt_i hf h3 eh3
  refine J_aload_n Z.1 0 dX11_begin_15 rfl rfl ?_
  refine J_get (v := va_rf (hR h3 this 3)) Z.1 dX11_begin_16 fl_X11_9 t0 rfl ?_
  refine J_tr (fun r4 er4 => ?_)
  replace hf := lt_i hf r4 er4
  refine J_lconst Z.1 (v := 0) (by decide) dX11_begin_19 ?_
  replace hf := nn_i hf
  obtain ⟨a4, rfl, hf⟩ := hf
  replace hf := bd_i hf
  obtain ⟨h5, q6, hf⟩ := hf
  refine J_callS (as := [va_rf (some a4), .long 0]) (rest := []) (sy := []) Z.1 dX11_begin_20 cw_X11_26 (pJ7_fill_d0a16_ok G (dk - 1) (by omega) q6) (zG Z) rfl (by decide) (zF Z (by omega)) (zO Z (by omega) (by decide)) (zM _) Z.2.1 Z.2.1 rfl rfl ?_
  cases hf
  exact J_vret Z.1 Z.2.2.2.2.2 dX11_begin_23
theorem dX11_has_0 : decode cX11_has 0 = .ok (.iload_n 1, 1) := by decide +kernel
theorem dX11_has_1 : decode cX11_has 1 = .ok (.ifCond .lt 24, 3) := by decide +kernel
theorem dX11_has_4 : decode cX11_has 4 = .ok (.iload_n 1, 1) := by decide +kernel
theorem dX11_has_5 : decode cX11_has 5 = .ok (.aload_n 0, 1) := by decide +kernel
theorem dX11_has_6 : decode cX11_has 6 = .ok (.getfield 23, 3) := by decide +kernel
theorem dX11_has_9 : decode cX11_has 9 = .ok (.if_icmp .ge 16, 3) := by decide +kernel
theorem dX11_has_12 : decode cX11_has 12 = .ok (.iload_n 1, 1) := by decide +kernel
theorem dX11_has_13 : decode cX11_has 13 = .ok (.aload_n 0, 1) := by decide +kernel
theorem dX11_has_14 : decode cX11_has 14 = .ok (.getfield 9, 3) := by decide +kernel
theorem dX11_has_17 : decode cX11_has 17 = .ok (.arraylength, 1) := by decide +kernel
theorem dX11_has_18 : decode cX11_has 18 = .ok (.if_icmp .ge 7, 3) := by decide +kernel
theorem dX11_has_21 : decode cX11_has 21 = .ok (.iconst 1, 1) := by decide +kernel
theorem dX11_has_22 : decode cX11_has 22 = .ok (.goto 4, 3) := by decide +kernel
theorem dX11_has_25 : decode cX11_has 25 = .ok (.iconst 0, 1) := by decide +kernel
theorem dX11_has_26 : decode cX11_has 26 = .ok (.ireturn, 1) := by decide +kernel
def pX11_has (g : MT) (h : CT) (this : Nat) (p1 : Int32) : Option Int32 := tg g this 10 (if p1 < 0 then some 0 else if (hI h this 2) ≤ p1 then some 0 else lt (hR h this 3) fun r3 => (nn r3 fun a3 => (tg g a3 21 (if (Int32.ofNat (gL g a3)) ≤ p1 then some 0 else some 1))))
set_option maxRecDepth 10000 in
set_option maxHeartbeats 4000000 in
theorem pX11_has_ok (G : Gx) (dk : Nat) (hK : 0 ≤ dk) {g : MT} {h : CT} {this : Nat} {p1 : Int32} {r0 : Int32} (hf : pX11_has g h this p1 = some r0) : Ctr G dk yX11_has cX11_has 2 (some .boolean) [va_rf (some this), .int p1] g h (some (.int r0)) g h := by
  refine Ctr.ofZ (lv := [(0, va_rf (some this)), (1, .int p1)]) (by decide +kernel) (by simp [cat_i, cat_l, cat_d, cat_rf]) rfl fun X Z => ?_
  unfold pX11_has at hf
  replace hf := tg_i hf
  obtain ⟨t0, hf⟩ := hf
  refine J_iload_n Z.1 1 dX11_has_0 rfl rfl ?_
  refine J_if_lt Z.1 25 dX11_has_1 (by decide) (fun c1 => ?_) (fun c1 => ?_)
  · rw [if_pos c1] at hf
    refine J_iconst Z.1 (v := 0) (by decide) dX11_has_25 ?_
    cases hf
    exact J_zret Z.1 Z.2.2.2.2.2 (z_n (Or.inl rfl)) dX11_has_26
  · rw [if_neg c1] at hf
    refine J_iload_n Z.1 1 dX11_has_4 rfl rfl ?_
    refine J_aload_n Z.1 0 dX11_has_5 rfl rfl ?_
    refine J_get (v := .int (hI h this 2)) Z.1 dX11_has_6 fl_X11_23 t0 rfl ?_
    refine J_icmp_ge Z.1 25 dX11_has_9 (by decide) (fun c2 => ?_) (fun c2 => ?_)
    · rw [if_pos c2] at hf
      refine J_iconst Z.1 (v := 0) (by decide) dX11_has_25 ?_
      cases hf
      exact J_zret Z.1 Z.2.2.2.2.2 (z_n (Or.inl rfl)) dX11_has_26
    · rw [if_neg c2] at hf
      refine J_iload_n Z.1 1 dX11_has_12 rfl rfl ?_
      refine J_aload_n Z.1 0 dX11_has_13 rfl rfl ?_
      refine J_get (v := va_rf (hR h this 3)) Z.1 dX11_has_14 fl_X11_9 t0 rfl ?_
      refine J_tr (fun r3 er3 => ?_)
      replace hf := lt_i hf r3 er3
      replace hf := nn_i hf
      obtain ⟨a3, rfl, hf⟩ := hf
      replace hf := tg_i hf
      obtain ⟨t4, hf⟩ := hf
      refine J_alen (t := 1) Z.1 dX11_has_17 t4 rfl ?_
      refine J_icmp_ge Z.1 25 dX11_has_18 (by decide) (fun c5 => ?_) (fun c5 => ?_)
      · rw [if_pos c5] at hf
        refine J_iconst Z.1 (v := 0) (by decide) dX11_has_25 ?_
        cases hf
        exact J_zret Z.1 Z.2.2.2.2.2 (z_n (Or.inl rfl)) dX11_has_26
      · rw [if_neg c5] at hf
        refine J_iconst Z.1 (v := 1) (by decide) dX11_has_21 ?_
        refine J_goto Z.1 26 dX11_has_22 (by decide) ?_
        cases hf
        exact J_zret Z.1 Z.2.2.2.2.2 (z_n (Or.inr rfl)) dX11_has_26
theorem dX11_holds_0 : decode cX11_holds 0 = .ok (.iload_n 1, 1) := by decide +kernel
theorem dX11_holds_1 : decode cX11_holds 1 = .ok (.ifCond .lt 29, 3) := by decide +kernel
theorem dX11_holds_4 : decode cX11_holds 4 = .ok (.iload_n 2, 1) := by decide +kernel
theorem dX11_holds_5 : decode cX11_holds 5 = .ok (.ifCond .lt 25, 3) := by decide +kernel
theorem dX11_holds_8 : decode cX11_holds 8 = .ok (.iload_n 2, 1) := by decide +kernel
theorem dX11_holds_9 : decode cX11_holds 9 = .ok (.aload_n 0, 1) := by decide +kernel
theorem dX11_holds_10 : decode cX11_holds 10 = .ok (.getfield 23, 3) := by decide +kernel
theorem dX11_holds_13 : decode cX11_holds 13 = .ok (.if_icmp .gt 17, 3) := by decide +kernel
theorem dX11_holds_16 : decode cX11_holds 16 = .ok (.iload_n 1, 1) := by decide +kernel
theorem dX11_holds_17 : decode cX11_holds 17 = .ok (.aload_n 0, 1) := by decide +kernel
theorem dX11_holds_18 : decode cX11_holds 18 = .ok (.getfield 23, 3) := by decide +kernel
theorem dX11_holds_21 : decode cX11_holds 21 = .ok (.iload_n 2, 1) := by decide +kernel
theorem dX11_holds_22 : decode cX11_holds 22 = .ok (.isub, 1) := by decide +kernel
theorem dX11_holds_23 : decode cX11_holds 23 = .ok (.if_icmp .gt 7, 3) := by decide +kernel
theorem dX11_holds_26 : decode cX11_holds 26 = .ok (.iconst 1, 1) := by decide +kernel
theorem dX11_holds_27 : decode cX11_holds 27 = .ok (.goto 4, 3) := by decide +kernel
theorem dX11_holds_30 : decode cX11_holds 30 = .ok (.iconst 0, 1) := by decide +kernel
theorem dX11_holds_31 : decode cX11_holds 31 = .ok (.ireturn, 1) := by decide +kernel
def pX11_holds (g : MT) (h : CT) (this : Nat) (p1 : Int32) (p2 : Int32) : Option Int32 := tg g this 10 (if p1 < 0 then some 0 else if p2 < 0 then some 0 else if (hI h this 2) < p2 then some 0 else if ((hI h this 2) - p2) < p1 then some 0 else some 1)
set_option maxRecDepth 10000 in
set_option maxHeartbeats 4000000 in
theorem pX11_holds_ok (G : Gx) (dk : Nat) (hK : 0 ≤ dk) {g : MT} {h : CT} {this : Nat} {p1 : Int32} {p2 : Int32} {r0 : Int32} (hf : pX11_holds g h this p1 p2 = some r0) : Ctr G dk yX11_holds cX11_holds 3 (some .boolean) [va_rf (some this), .int p1, .int p2] g h (some (.int r0)) g h := by
  refine Ctr.ofZ (lv := [(0, va_rf (some this)), (1, .int p1), (2, .int p2)]) (by decide +kernel) (by simp [cat_i, cat_l, cat_d, cat_rf]) rfl fun X Z => ?_
  unfold pX11_holds at hf
  replace hf := tg_i hf
  obtain ⟨t0, hf⟩ := hf
  refine J_iload_n Z.1 1 dX11_holds_0 rfl rfl ?_
  refine J_if_lt Z.1 30 dX11_holds_1 (by decide) (fun c1 => ?_) (fun c1 => ?_)
  · rw [if_pos c1] at hf
    refine J_iconst Z.1 (v := 0) (by decide) dX11_holds_30 ?_
    cases hf
    exact J_zret Z.1 Z.2.2.2.2.2 (z_n (Or.inl rfl)) dX11_holds_31
  · rw [if_neg c1] at hf
    refine J_iload_n Z.1 2 dX11_holds_4 rfl rfl ?_
    refine J_if_lt Z.1 30 dX11_holds_5 (by decide) (fun c2 => ?_) (fun c2 => ?_)
    · rw [if_pos c2] at hf
      refine J_iconst Z.1 (v := 0) (by decide) dX11_holds_30 ?_
      cases hf
      exact J_zret Z.1 Z.2.2.2.2.2 (z_n (Or.inl rfl)) dX11_holds_31
    · rw [if_neg c2] at hf
      refine J_iload_n Z.1 2 dX11_holds_8 rfl rfl ?_
      refine J_aload_n Z.1 0 dX11_holds_9 rfl rfl ?_
      refine J_get (v := .int (hI h this 2)) Z.1 dX11_holds_10 fl_X11_23 t0 rfl ?_
      refine J_icmp_gt Z.1 30 dX11_holds_13 (by decide) (fun c3 => ?_) (fun c3 => ?_)
      · rw [if_pos c3] at hf
        refine J_iconst Z.1 (v := 0) (by decide) dX11_holds_30 ?_
        cases hf
        exact J_zret Z.1 Z.2.2.2.2.2 (z_n (Or.inl rfl)) dX11_holds_31
      · rw [if_neg c3] at hf
        refine J_iload_n Z.1 1 dX11_holds_16 rfl rfl ?_
        refine J_aload_n Z.1 0 dX11_holds_17 rfl rfl ?_
        refine J_get (v := .int (hI h this 2)) Z.1 dX11_holds_18 fl_X11_23 t0 rfl ?_
        refine J_iload_n Z.1 2 dX11_holds_21 rfl rfl ?_
        refine J_isub Z.1 dX11_holds_22 ?_
        refine J_icmp_gt Z.1 30 dX11_holds_23 (by decide) (fun c4 => ?_) (fun c4 => ?_)
        · rw [if_pos c4] at hf
          refine J_iconst Z.1 (v := 0) (by decide) dX11_holds_30 ?_
          cases hf
          exact J_zret Z.1 Z.2.2.2.2.2 (z_n (Or.inl rfl)) dX11_holds_31
        · rw [if_neg c4] at hf
          refine J_iconst Z.1 (v := 1) (by decide) dX11_holds_26 ?_
          refine J_goto Z.1 31 dX11_holds_27 (by decide) ?_
          cases hf
          exact J_zret Z.1 Z.2.2.2.2.2 (z_n (Or.inr rfl)) dX11_holds_31
theorem dX11_fetch_0 : decode cX11_fetch 0 = .ok (.aload_n 0, 1) := by decide +kernel
theorem dX11_fetch_1 : decode cX11_fetch 1 = .ok (.iload_n 1, 1) := by decide +kernel
theorem dX11_fetch_2 : decode cX11_fetch 2 = .ok (.invokevirtual 32, 3) := by decide +kernel
theorem dX11_fetch_5 : decode cX11_fetch 5 = .ok (.ifCond .eq 12, 3) := by decide +kernel
theorem dX11_fetch_8 : decode cX11_fetch 8 = .ok (.aload_n 0, 1) := by decide +kernel
theorem dX11_fetch_9 : decode cX11_fetch 9 = .ok (.getfield 9, 3) := by decide +kernel
theorem dX11_fetch_12 : decode cX11_fetch 12 = .ok (.iload_n 1, 1) := by decide +kernel
theorem dX11_fetch_13 : decode cX11_fetch 13 = .ok (.laload, 1) := by decide +kernel
theorem dX11_fetch_14 : decode cX11_fetch 14 = .ok (.goto 4, 3) := by decide +kernel
theorem dX11_fetch_17 : decode cX11_fetch 17 = .ok (.lconst 0, 1) := by decide +kernel
theorem dX11_fetch_18 : decode cX11_fetch 18 = .ok (.lreturn, 1) := by decide +kernel
def pX11_fetch (g : MT) (h : CT) (this : Nat) (p1 : Int32) : Option Int64 := tg g this 10 (bd (pX11_has g h this p1) fun x1 => (if x1 = 0 then some 0 else lt (hR h this 3) fun r4 => (nn r4 fun a4 => (tg g a4 21 (ix (gL g a4) p1 (some (hL h a4 (Int32.toNatClampNeg p1))))))))
set_option maxRecDepth 10000 in
set_option maxHeartbeats 4000000 in
theorem pX11_fetch_ok (G : Gx) (dk : Nat) (hK : 1 ≤ dk) {g : MT} {h : CT} {this : Nat} {p1 : Int32} {r0 : Int64} (hf : pX11_fetch g h this p1 = some r0) : Ctr G dk yX11_fetch cX11_fetch 2 (some .long) [va_rf (some this), .int p1] g h (some (.long r0)) g h := by
  refine Ctr.ofZ (lv := [(0, va_rf (some this)), (1, .int p1)]) (by decide +kernel) (by simp [cat_i, cat_l, cat_d, cat_rf]) rfl fun X Z => ?_
  unfold pX11_fetch at hf
  replace hf := tg_i hf
  obtain ⟨t0, hf⟩ := hf
  refine J_aload_n Z.1 0 dX11_fetch_0 rfl rfl ?_
  refine J_iload_n Z.1 1 dX11_fetch_1 rfl rfl ?_
  replace hf := bd_i hf
  obtain ⟨x1, q2, hf⟩ := hf
  refine J_callV (ci := 9) (as := [.int p1]) (rest := []) (sy := [.int x1]) Z.1 dX11_fetch_2 cw_X11_32 (pX11_has_ok G (dk - 1) (by omega) q2) rfl rfl t0 (zG Z) rfl (by decide) (zF Z (by omega)) (zO Z (by omega) (by decide)) (zM _) Z.2.1 Z.2.1 rfl rfl ?_
  refine J_if_eq Z.1 17 dX11_fetch_5 (by decide) (fun c3 => ?_) (fun c3 => ?_)
  · rw [if_pos c3] at hf
    refine J_lconst Z.1 (v := 0) (by decide) dX11_fetch_17 ?_
    cases hf
    exact J_lret Z.1 Z.2.2.2.2.2 dX11_fetch_18
  · rw [if_neg c3] at hf
    refine J_aload_n Z.1 0 dX11_fetch_8 rfl rfl ?_
    refine J_get (v := va_rf (hR h this 3)) Z.1 dX11_fetch_9 fl_X11_9 t0 rfl ?_
    refine J_tr (fun r4 er4 => ?_)
    replace hf := lt_i hf r4 er4
    refine J_iload_n Z.1 1 dX11_fetch_12 rfl rfl ?_
    replace hf := nn_i hf
    obtain ⟨a4, rfl, hf⟩ := hf
    replace hf := tg_i hf
    obtain ⟨t5, hf⟩ := hf
    replace hf := ix_i hf
    obtain ⟨i6, hf⟩ := hf
    refine J_laload Z.1 dX11_fetch_13 t5 i6 ?_
    refine J_goto Z.1 18 dX11_fetch_14 (by decide) ?_
    cases hf
    exact J_lret Z.1 Z.2.2.2.2.2 dX11_fetch_18
theorem dX11_cut_0 : decode cX11_cut 0 = .ok (.aload_n 0, 1) := by decide +kernel
theorem dX11_cut_1 : decode cX11_cut 1 = .ok (.getfield 19, 3) := by decide +kernel
theorem dX11_cut_4 : decode cX11_cut 4 = .ok (.tableswitch 42 0 2 #[28, 33, 38], 28) := by decide +kernel
theorem dX11_cut_32 : decode cX11_cut 32 = .ok (.lload_n 1, 1) := by decide +kernel
theorem dX11_cut_33 : decode cX11_cut 33 = .ok (.l2i, 1) := by decide +kernel
theorem dX11_cut_34 : decode cX11_cut 34 = .ok (.i2b, 1) := by decide +kernel
theorem dX11_cut_35 : decode cX11_cut 35 = .ok (.i2l, 1) := by decide +kernel
theorem dX11_cut_36 : decode cX11_cut 36 = .ok (.lreturn, 1) := by decide +kernel
theorem dX11_cut_37 : decode cX11_cut 37 = .ok (.lload_n 1, 1) := by decide +kernel
theorem dX11_cut_38 : decode cX11_cut 38 = .ok (.l2i, 1) := by decide +kernel
theorem dX11_cut_39 : decode cX11_cut 39 = .ok (.i2s, 1) := by decide +kernel
theorem dX11_cut_40 : decode cX11_cut 40 = .ok (.i2l, 1) := by decide +kernel
theorem dX11_cut_41 : decode cX11_cut 41 = .ok (.lreturn, 1) := by decide +kernel
theorem dX11_cut_42 : decode cX11_cut 42 = .ok (.lload_n 1, 1) := by decide +kernel
theorem dX11_cut_43 : decode cX11_cut 43 = .ok (.l2i, 1) := by decide +kernel
theorem dX11_cut_44 : decode cX11_cut 44 = .ok (.i2l, 1) := by decide +kernel
theorem dX11_cut_45 : decode cX11_cut 45 = .ok (.lreturn, 1) := by decide +kernel
theorem dX11_cut_46 : decode cX11_cut 46 = .ok (.lload_n 1, 1) := by decide +kernel
theorem dX11_cut_47 : decode cX11_cut 47 = .ok (.lreturn, 1) := by decide +kernel
def pX11_cut (g : MT) (h : CT) (this : Nat) (p1 : Int64) : Option Int64 := tg g this 10 (lt (hI h this 1) fun x1 => (if x1 = 0 then some (Int32.toInt64 (Int8.toInt32 (Int32.toInt8 (Int64.toInt32 p1)))) else (if x1 = 1 then some (Int32.toInt64 (Int16.toInt32 (Int32.toInt16 (Int64.toInt32 p1)))) else (if x1 = 2 then some (Int32.toInt64 (Int64.toInt32 p1)) else (some p1)))))
set_option maxRecDepth 10000 in
set_option maxHeartbeats 4000000 in
theorem pX11_cut_ok (G : Gx) (dk : Nat) (hK : 0 ≤ dk) {g : MT} {h : CT} {this : Nat} {p1 : Int64} {r0 : Int64} (hf : pX11_cut g h this p1 = some r0) : Ctr G dk yX11_cut cX11_cut 3 (some .long) [va_rf (some this), .long p1] g h (some (.long r0)) g h := by
  refine Ctr.ofZ (lv := [(0, va_rf (some this)), (1, .long p1)]) (by decide +kernel) (by simp [cat_i, cat_l, cat_d, cat_rf]) rfl fun X Z => ?_
  unfold pX11_cut at hf
  replace hf := tg_i hf
  obtain ⟨t0, hf⟩ := hf
  refine J_aload_n Z.1 0 dX11_cut_0 rfl rfl ?_
  refine J_get (v := .int (hI h this 1)) Z.1 dX11_cut_1 fl_X11_19 t0 rfl ?_
  refine J_ti (fun x1 ex1 => ?_)
  replace hf := lt_i hf x1 ex1
  by_cases c2 : x1 = 0
  · rw [if_pos c2] at hf
    refine J_tabIn (off := 28) Z.1 32 dX11_cut_4 (by rw [c2]; decide) (by rw [c2]; decide) (by rw [c2]; decide) (by decide) ?_
    refine J_lload_n Z.1 1 dX11_cut_32 rfl rfl ?_
    refine J_l2i Z.1 dX11_cut_33 ?_
    refine J_i2b Z.1 dX11_cut_34 ?_
    refine J_i2l Z.1 dX11_cut_35 ?_
    cases hf
    exact J_lret Z.1 Z.2.2.2.2.2 dX11_cut_36
  rw [if_neg c2] at hf
  by_cases c3 : x1 = 1
  · rw [if_pos c3] at hf
    refine J_tabIn (off := 33) Z.1 37 dX11_cut_4 (by rw [c3]; decide) (by rw [c3]; decide) (by rw [c3]; decide) (by decide) ?_
    refine J_lload_n Z.1 1 dX11_cut_37 rfl rfl ?_
    refine J_l2i Z.1 dX11_cut_38 ?_
    refine J_i2s Z.1 dX11_cut_39 ?_
    refine J_i2l Z.1 dX11_cut_40 ?_
    cases hf
    exact J_lret Z.1 Z.2.2.2.2.2 dX11_cut_41
  rw [if_neg c3] at hf
  by_cases c4 : x1 = 2
  · rw [if_pos c4] at hf
    refine J_tabIn (off := 38) Z.1 42 dX11_cut_4 (by rw [c4]; decide) (by rw [c4]; decide) (by rw [c4]; decide) (by decide) ?_
    refine J_lload_n Z.1 1 dX11_cut_42 rfl rfl ?_
    refine J_l2i Z.1 dX11_cut_43 ?_
    refine J_i2l Z.1 dX11_cut_44 ?_
    cases hf
    exact J_lret Z.1 Z.2.2.2.2.2 dX11_cut_45
  rw [if_neg c4] at hf
  have hout : x1.toInt < 0 ∨ 2 < x1.toInt := by
    have c2q := lv_neT c2 (a := 0) (by decide)
    have c3q := lv_neT c3 (a := 1) (by decide)
    have c4q := lv_neT c4 (a := 2) (by decide)
    omega
  refine J_tabOut Z.1 46 dX11_cut_4 hout (by decide) ?_
  refine J_lload_n Z.1 1 dX11_cut_46 rfl rfl ?_
  cases hf
  exact J_lret Z.1 Z.2.2.2.2.2 dX11_cut_47
theorem dX1_init_0 : decode cX1_init 0 = .ok (.aload_n 0, 1) := by decide +kernel
theorem dX1_init_1 : decode cX1_init 1 = .ok (.invokespecial 1, 3) := by decide +kernel
theorem dX1_init_4 : decode cX1_init 4 = .ok (.aload_n 0, 1) := by decide +kernel
theorem dX1_init_5 : decode cX1_init 5 = .ok (.bipush 10, 2) := by decide +kernel
theorem dX1_init_7 : decode cX1_init 7 = .ok (.newarray .double, 2) := by decide +kernel
theorem dX1_init_9 : decode cX1_init 9 = .ok (.putfield 9, 3) := by decide +kernel
theorem dX1_init_12 : decode cX1_init 12 = .ok (.ldc2_w 13, 3) := by decide +kernel
theorem dX1_init_15 : decode cX1_init 15 = .ok (.dstore_n 1, 1) := by decide +kernel
theorem dX1_init_16 : decode cX1_init 16 = .ok (.iconst 0, 1) := by decide +kernel
theorem dX1_init_17 : decode cX1_init 17 = .ok (.istore_n 3, 1) := by decide +kernel
theorem dX1_init_18 : decode cX1_init 18 = .ok (.iload_n 3, 1) := by decide +kernel
theorem dX1_init_19 : decode cX1_init 19 = .ok (.bipush 10, 2) := by decide +kernel
theorem dX1_init_21 : decode cX1_init 21 = .ok (.if_icmp .ge 30, 3) := by decide +kernel
theorem dX1_init_24 : decode cX1_init 24 = .ok (.aload_n 0, 1) := by decide +kernel
theorem dX1_init_25 : decode cX1_init 25 = .ok (.getfield 9, 3) := by decide +kernel
theorem dX1_init_28 : decode cX1_init 28 = .ok (.iload_n 3, 1) := by decide +kernel
theorem dX1_init_29 : decode cX1_init 29 = .ok (.dload_n 1, 1) := by decide +kernel
theorem dX1_init_30 : decode cX1_init 30 = .ok (.dastore, 1) := by decide +kernel
theorem dX1_init_31 : decode cX1_init 31 = .ok (.iload_n 3, 1) := by decide +kernel
theorem dX1_init_32 : decode cX1_init 32 = .ok (.bipush 9, 2) := by decide +kernel
theorem dX1_init_34 : decode cX1_init 34 = .ok (.if_icmp .ge 9, 3) := by decide +kernel
theorem dX1_init_37 : decode cX1_init 37 = .ok (.dload_n 1, 1) := by decide +kernel
theorem dX1_init_38 : decode cX1_init 38 = .ok (.dload_n 1, 1) := by decide +kernel
theorem dX1_init_39 : decode cX1_init 39 = .ok (.dmul, 1) := by decide +kernel
theorem dX1_init_40 : decode cX1_init 40 = .ok (.goto 4, 3) := by decide +kernel
theorem dX1_init_43 : decode cX1_init 43 = .ok (.dload_n 1, 1) := by decide +kernel
theorem dX1_init_44 : decode cX1_init 44 = .ok (.dstore_n 1, 1) := by decide +kernel
theorem dX1_init_45 : decode cX1_init 45 = .ok (.iinc 3 1, 3) := by decide +kernel
theorem dX1_init_48 : decode cX1_init 48 = .ok (.goto (-30), 3) := by decide +kernel
theorem dX1_init_51 : decode cX1_init 51 = .ok (.return_, 1) := by decide +kernel
def pX1_init_b44 (this : Nat) (k18 : UInt64 → Int32 → MT → CT → Option (MT × CT)) (l3 : Int32) (s0 : UInt64) (g : MT) (h : CT) : Option (MT × CT) := lt (l3 + 1) fun x1 => (k18 s0 x1 g h)
set_option maxRecDepth 10000 in
set_option maxHeartbeats 4000000 in
theorem pX1_init_b44_ok {X : Cx} {G : Gx} {dk : Nat} {g0 : MT} {h0 : CT} {this : Nat} {k18 : UInt64 → Int32 → MT → CT → Option (MT × CT)} (Z : Zy X G cX1_init RX1 4 dk none none "<init>" g0 h0) (hK : 1 ≤ dk) (hk18 : ∀ (l1 : UInt64) (l3 : Int32) (g : MT) (h : CT), RM X g → k18 l1 l3 g h = some (g0, h0) → J X g h 18 [(0, va_rf (some this)), (1, .double l1), (3, .int l3)] []) (l3 : Int32) (s0 : UInt64) (g : MT) (h : CT) (M : RM X g) (hf : pX1_init_b44 this k18 l3 s0 g h = some (g0, h0)) : J X g h 44 [(0, va_rf (some this)), (3, .int l3)] [.double s0] := by
  unfold pX1_init_b44 at hf
  refine J_dstore_n Z.1 (lv2 := [(1, .double s0), (0, va_rf (some this)), (3, .int l3)]) dX1_init_44 rfl (yL Z (by decide)) rfl ?_
  refine J_iinc Z.1 (v := 1) (lv2 := [(3, .int (l3 + 1)), (1, .double s0), (0, va_rf (some this))]) 2 dX1_init_45 rfl (by decide) (yL Z (by decide)) rfl ?_
  obtain ⟨x1, ex1⟩ : ∃ z, z = (l3 + 1) := ⟨_, rfl⟩
  replace hf := lt_i hf x1 ex1
  rw [← ex1]
  refine J_goto Z.1 18 dX1_init_48 (by decide) ?_
  refine J_lv [2, 1, 0] rfl ?_
  exact hk18 _ _ _ _ M hf
def pX1_init_b18 (this : Nat) (k18 : UInt64 → Int32 → MT → CT → Option (MT × CT)) (l1 : UInt64) (l3 : Int32) (g : MT) (h : CT) : Option (MT × CT) := if 10 ≤ l3 then some (g, h) else tg g this 1 (lt (hR h this 2) fun r3 => (nn r3 fun a3 => (tg g a3 22 (ix (gL g a3) l3 (lt (sD h a3 (Int32.toNatClampNeg l3) l1) fun h6 => (if 9 ≤ l3 then pX1_init_b44 this k18 l3 l1 g h6 else pX1_init_b44 this k18 l3 (fmul l1 l1) g h6))))))
set_option maxRecDepth 10000 in
set_option maxHeartbeats 4000000 in
theorem pX1_init_b18_ok {X : Cx} {G : Gx} {dk : Nat} {g0 : MT} {h0 : CT} {this : Nat} {k18 : UInt64 → Int32 → MT → CT → Option (MT × CT)} (Z : Zy X G cX1_init RX1 4 dk none none "<init>" g0 h0) (hK : 1 ≤ dk) (hk18 : ∀ (l1 : UInt64) (l3 : Int32) (g : MT) (h : CT), RM X g → k18 l1 l3 g h = some (g0, h0) → J X g h 18 [(0, va_rf (some this)), (1, .double l1), (3, .int l3)] []) (l1 : UInt64) (l3 : Int32) (g : MT) (h : CT) (M : RM X g) (hf : pX1_init_b18 this k18 l1 l3 g h = some (g0, h0)) : J X g h 18 [(0, va_rf (some this)), (1, .double l1), (3, .int l3)] [] := by
  unfold pX1_init_b18 at hf
  refine J_iload_n Z.1 2 dX1_init_18 rfl rfl ?_
  refine J_bipush Z.1 (v := 10) (by decide) dX1_init_19 ?_
  refine J_icmp_ge Z.1 51 dX1_init_21 (by decide) (fun c1 => ?_) (fun c1 => ?_)
  · rw [if_pos c1] at hf
    cases hf
    exact J_vret Z.1 Z.2.2.2.2.1 dX1_init_51
  · rw [if_neg c1] at hf
    refine J_aload_n Z.1 0 dX1_init_24 rfl rfl ?_
    replace hf := tg_i hf
    obtain ⟨t2, hf⟩ := hf
    refine J_get (v := va_rf (hR h this 2)) Z.1 dX1_init_25 fl_X1_9 t2 rfl ?_
    refine J_tr (fun r3 er3 => ?_)
    replace hf := lt_i hf r3 er3
    refine J_iload_n Z.1 2 dX1_init_28 rfl rfl ?_
    refine J_dload_n Z.1 1 dX1_init_29 rfl rfl ?_
    replace hf := nn_i hf
    obtain ⟨a3, rfl, hf⟩ := hf
    replace hf := tg_i hf
    obtain ⟨t4, hf⟩ := hf
    replace hf := ix_i hf
    obtain ⟨i5, hf⟩ := hf
    refine J_dastore Z.1 dX1_init_30 t4 i5 ?_
    refine J_th (fun h6 eh6 => ?_)
    replace hf := lt_i hf h6 eh6
    refine J_iload_n Z.1 2 dX1_init_31 rfl rfl ?_
    refine J_bipush Z.1 (v := 9) (by decide) dX1_init_32 ?_
    refine J_icmp_ge Z.1 43 dX1_init_34 (by decide) (fun c7 => ?_) (fun c7 => ?_)
    · rw [if_pos c7] at hf
      refine J_dload_n Z.1 1 dX1_init_43 rfl rfl ?_
      refine J_lv [0, 2] rfl ?_
      exact pX1_init_b44_ok Z hK hk18 _ _ _ _ M hf
    · rw [if_neg c7] at hf
      refine J_dload_n Z.1 1 dX1_init_37 rfl rfl ?_
      refine J_dload_n Z.1 1 dX1_init_38 rfl rfl ?_
      refine J_dmul Z.1 dX1_init_39 ?_
      refine J_goto Z.1 44 dX1_init_40 (by decide) ?_
      refine J_lv [0, 2] rfl ?_
      exact pX1_init_b44_ok Z hK hk18 _ _ _ _ M hf
def pX1_init_l18 (this : Nat) : Nat → UInt64 → Int32 → MT → CT → Option (MT × CT)
  | 0, _, _, _, _ => none
  | n + 1, l1, l3, g, h => pX1_init_b18 this (pX1_init_l18 this n) l1 l3 g h
theorem pX1_init_l18_ok {X : Cx} {G : Gx} {dk : Nat} {g0 : MT} {h0 : CT} {this : Nat} (Z : Zy X G cX1_init RX1 4 dk none none "<init>" g0 h0) (hK : 1 ≤ dk) : ∀ (n : Nat) (l1 : UInt64) (l3 : Int32) (g : MT) (h : CT), RM X g → pX1_init_l18 this n l1 l3 g h = some (g0, h0) → J X g h 18 [(0, va_rf (some this)), (1, .double l1), (3, .int l3)] [] := by
  intro n
  induction n with
  | zero => intro l1 l3 g h M hf; cases hf
  | succ n ih => intro l1 l3 g h M hf; exact pX1_init_b18_ok Z hK ih l1 l3 g h M hf
def pX1_init (g : MT) (h : CT) (this : Nat) : Option (MT × CT) := gq Prod.fst g (gq Prod.fst (gA g 22 10) (lt (gA g 22 10) fun g1 => (lt (hZ h (gN g)) fun h2 => (lt (gN g) fun a3 => (tg g1 this 1 (lt (sR h2 this 2 (some a3)) fun h7 => (pX1_init_l18 this  FUEL 4611686018427387904 0 g1 h7)))))))
theorem pX1_init_mono {g g0 : MT} {h h0 : CT} {this : Nat} (hf : pX1_init g h this = some (g0, h0)) : gN g ≤ gN g0 ∧ gU g ≤ gU g0 := by
  unfold pX1_init at hf
  exact (gq_i hf).1
set_option maxRecDepth 10000 in
set_option maxHeartbeats 4000000 in
theorem pX1_init_ok (G : Gx) (dk : Nat) (hK : 1 ≤ dk) {g g0 : MT} {h h0 : CT} {this : Nat} (hf : pX1_init g h this = some (g0, h0)) : Ctr G dk yX1_init cX1_init 4 none [va_rf (some this)] g h none g0 h0 := by
  unfold pX1_init at hf
  replace hf := gq_i hf
  obtain ⟨hm, hf⟩ := hf
  refine Ctr.ofY (lv := [(0, va_rf (some this))]) (by decide +kernel) (by simp [cat_i, cat_l, cat_d, cat_rf]) rfl hm fun X Z M => ?_
  refine J_aload_n Z.1 0 dX1_init_0 rfl rfl ?_
  refine J_objInit Z.1 dX1_init_1 q_333 q_168 q_169 (yO2 Z (by omega) (by simp [cat_i, cat_l, cat_d, cat_rf])) (yF Z (d := 0) (by omega)) ?_
  refine J_aload_n Z.1 0 dX1_init_4 rfl rfl ?_
  refine J_bipush Z.1 (v := 10) (by decide) dX1_init_5 ?_
  replace hf := gq_i hf
  obtain ⟨n4, hf⟩ := hf
  have M5 := rmA Z M n4
  refine J_newa (t := 2) (N := 10) .double Z.1 dX1_init_7 rfl rfl (by decide) (fun _ q => by cases q) q_265 (by decide) (by decide) (by decide) M M5 ?_
  refine J_tg (fun g1 eg1 => ?_)
  rw [← eg1] at M5
  replace hf := lt_i hf g1 eg1
  refine J_th (fun h2 eh2 => ?_)
  replace hf := lt_i hf h2 eh2
  refine J_ta (fun a3 ea3 => ?_)
  replace hf := lt_i hf a3 ea3
  replace hf := tg_i hf
  obtain ⟨t6, hf⟩ := hf
  refine J_putR Z.1 dX1_init_9 fl_X1_9 (fun _ => ⟨Z.2.2.2.2.2.2.2, _, rfl, rfl⟩) t6 (Or.inr ⟨_, rfl⟩) ?_
  refine J_th (fun h7 eh7 => ?_)
  replace hf := lt_i hf h7 eh7
  refine J_ldc2d Z.1 q_334 (by decide +kernel) dX1_init_12 ?_
  refine J_dstore_n Z.1 (lv2 := [(1, .double 4611686018427387904), (0, va_rf (some this))]) dX1_init_15 rfl (yL Z (by decide)) rfl ?_
  refine J_iconst Z.1 (v := 0) (by decide) dX1_init_16 ?_
  refine J_istore_n Z.1 (lv2 := [(3, .int 0), (1, .double 4611686018427387904), (0, va_rf (some this))]) dX1_init_17 rfl (yL Z (by decide)) rfl ?_
  refine J_lv [2, 1, 0] rfl ?_
  exact pX1_init_l18_ok Z hK  FUEL _ _ _ _ M5 hf
theorem dX1_split_0 : decode cX1_split 0 = .ok (.dload_n 1, 1) := by decide +kernel
theorem dX1_split_1 : decode cX1_split 1 = .ok (.dconst 0, 1) := by decide +kernel
theorem dX1_split_2 : decode cX1_split 2 = .ok (.dcmp .g, 1) := by decide +kernel
theorem dX1_split_3 : decode cX1_split 3 = .ok (.ifCond .ge 8, 3) := by decide +kernel
theorem dX1_split_6 : decode cX1_split 6 = .ok (.dload_n 1, 1) := by decide +kernel
theorem dX1_split_7 : decode cX1_split 7 = .ok (.dneg, 1) := by decide +kernel
theorem dX1_split_8 : decode cX1_split 8 = .ok (.goto 4, 3) := by decide +kernel
theorem dX1_split_11 : decode cX1_split 11 = .ok (.dload_n 1, 1) := by decide +kernel
theorem dX1_split_12 : decode cX1_split 12 = .ok (.dstore_n 3, 1) := by decide +kernel
theorem dX1_split_13 : decode cX1_split 13 = .ok (.aload_n 0, 1) := by decide +kernel
theorem dX1_split_14 : decode cX1_split 14 = .ok (.iconst 0, 1) := by decide +kernel
theorem dX1_split_15 : decode cX1_split 15 = .ok (.putfield 42, 3) := by decide +kernel
theorem dX1_split_18 : decode cX1_split 18 = .ok (.bipush 9, 2) := by decide +kernel
theorem dX1_split_20 : decode cX1_split 20 = .ok (.istore 5, 2) := by decide +kernel
theorem dX1_split_22 : decode cX1_split 22 = .ok (.iload 5, 2) := by decide +kernel
theorem dX1_split_24 : decode cX1_split 24 = .ok (.ifCond .lt 63, 3) := by decide +kernel
theorem dX1_split_27 : decode cX1_split 27 = .ok (.iconst 0, 1) := by decide +kernel
theorem dX1_split_28 : decode cX1_split 28 = .ok (.istore 6, 2) := by decide +kernel
theorem dX1_split_30 : decode cX1_split 30 = .ok (.iload 6, 2) := by decide +kernel
theorem dX1_split_32 : decode cX1_split 32 = .ok (.iconst 2, 1) := by decide +kernel
theorem dX1_split_33 : decode cX1_split 33 = .ok (.if_icmp .ge 48, 3) := by decide +kernel
theorem dX1_split_36 : decode cX1_split 36 = .ok (.dload_n 3, 1) := by decide +kernel
theorem dX1_split_37 : decode cX1_split 37 = .ok (.ldc2_w 45, 3) := by decide +kernel
theorem dX1_split_40 : decode cX1_split 40 = .ok (.aload_n 0, 1) := by decide +kernel
theorem dX1_split_41 : decode cX1_split 41 = .ok (.getfield 9, 3) := by decide +kernel
theorem dX1_split_44 : decode cX1_split 44 = .ok (.iload 5, 2) := by decide +kernel
theorem dX1_split_46 : decode cX1_split 46 = .ok (.daload, 1) := by decide +kernel
theorem dX1_split_47 : decode cX1_split 47 = .ok (.ddiv, 1) := by decide +kernel
theorem dX1_split_48 : decode cX1_split 48 = .ok (.dcmp .g, 1) := by decide +kernel
theorem dX1_split_49 : decode cX1_split 49 = .ok (.ifCond .ge 32, 3) := by decide +kernel
theorem dX1_split_52 : decode cX1_split 52 = .ok (.dload_n 3, 1) := by decide +kernel
theorem dX1_split_53 : decode cX1_split 53 = .ok (.aload_n 0, 1) := by decide +kernel
theorem dX1_split_54 : decode cX1_split 54 = .ok (.getfield 9, 3) := by decide +kernel
theorem dX1_split_57 : decode cX1_split 57 = .ok (.iload 5, 2) := by decide +kernel
theorem dX1_split_59 : decode cX1_split 59 = .ok (.daload, 1) := by decide +kernel
theorem dX1_split_60 : decode cX1_split 60 = .ok (.dmul, 1) := by decide +kernel
theorem dX1_split_61 : decode cX1_split 61 = .ok (.dstore_n 3, 1) := by decide +kernel
theorem dX1_split_62 : decode cX1_split 62 = .ok (.aload_n 0, 1) := by decide +kernel
theorem dX1_split_63 : decode cX1_split 63 = .ok (.dup, 1) := by decide +kernel
theorem dX1_split_64 : decode cX1_split 64 = .ok (.getfield 42, 3) := by decide +kernel
theorem dX1_split_67 : decode cX1_split 67 = .ok (.iconst 1, 1) := by decide +kernel
theorem dX1_split_68 : decode cX1_split 68 = .ok (.iload 5, 2) := by decide +kernel
theorem dX1_split_70 : decode cX1_split 70 = .ok (.ishl, 1) := by decide +kernel
theorem dX1_split_71 : decode cX1_split 71 = .ok (.isub, 1) := by decide +kernel
theorem dX1_split_72 : decode cX1_split 72 = .ok (.putfield 42, 3) := by decide +kernel
theorem dX1_split_75 : decode cX1_split 75 = .ok (.iinc 6 1, 3) := by decide +kernel
theorem dX1_split_78 : decode cX1_split 78 = .ok (.goto (-48), 3) := by decide +kernel
theorem dX1_split_81 : decode cX1_split 81 = .ok (.iinc 5 (-1), 3) := by decide +kernel
theorem dX1_split_84 : decode cX1_split 84 = .ok (.goto (-62), 3) := by decide +kernel
theorem dX1_split_87 : decode cX1_split 87 = .ok (.bipush 9, 2) := by decide +kernel
theorem dX1_split_89 : decode cX1_split 89 = .ok (.istore 5, 2) := by decide +kernel
theorem dX1_split_91 : decode cX1_split 91 = .ok (.iload 5, 2) := by decide +kernel
theorem dX1_split_93 : decode cX1_split 93 = .ok (.ifCond .lt 48, 3) := by decide +kernel
theorem dX1_split_96 : decode cX1_split 96 = .ok (.dload_n 3, 1) := by decide +kernel
theorem dX1_split_97 : decode cX1_split 97 = .ok (.aload_n 0, 1) := by decide +kernel
theorem dX1_split_98 : decode cX1_split 98 = .ok (.getfield 9, 3) := by decide +kernel
theorem dX1_split_101 : decode cX1_split 101 = .ok (.iload 5, 2) := by decide +kernel
theorem dX1_split_103 : decode cX1_split 103 = .ok (.daload, 1) := by decide +kernel
theorem dX1_split_104 : decode cX1_split 104 = .ok (.ddiv, 1) := by decide +kernel
theorem dX1_split_105 : decode cX1_split 105 = .ok (.ldc2_w 47, 3) := by decide +kernel
theorem dX1_split_108 : decode cX1_split 108 = .ok (.dcmp .l, 1) := by decide +kernel
theorem dX1_split_109 : decode cX1_split 109 = .ok (.ifCond .lt 26, 3) := by decide +kernel
theorem dX1_split_112 : decode cX1_split 112 = .ok (.dload_n 3, 1) := by decide +kernel
theorem dX1_split_113 : decode cX1_split 113 = .ok (.aload_n 0, 1) := by decide +kernel
theorem dX1_split_114 : decode cX1_split 114 = .ok (.getfield 9, 3) := by decide +kernel
theorem dX1_split_117 : decode cX1_split 117 = .ok (.iload 5, 2) := by decide +kernel
theorem dX1_split_119 : decode cX1_split 119 = .ok (.daload, 1) := by decide +kernel
theorem dX1_split_120 : decode cX1_split 120 = .ok (.ddiv, 1) := by decide +kernel
theorem dX1_split_121 : decode cX1_split 121 = .ok (.dstore_n 3, 1) := by decide +kernel
theorem dX1_split_122 : decode cX1_split 122 = .ok (.aload_n 0, 1) := by decide +kernel
theorem dX1_split_123 : decode cX1_split 123 = .ok (.dup, 1) := by decide +kernel
theorem dX1_split_124 : decode cX1_split 124 = .ok (.getfield 42, 3) := by decide +kernel
theorem dX1_split_127 : decode cX1_split 127 = .ok (.iconst 1, 1) := by decide +kernel
theorem dX1_split_128 : decode cX1_split 128 = .ok (.iload 5, 2) := by decide +kernel
theorem dX1_split_130 : decode cX1_split 130 = .ok (.ishl, 1) := by decide +kernel
theorem dX1_split_131 : decode cX1_split 131 = .ok (.iadd, 1) := by decide +kernel
theorem dX1_split_132 : decode cX1_split 132 = .ok (.putfield 42, 3) := by decide +kernel
theorem dX1_split_135 : decode cX1_split 135 = .ok (.iinc 5 (-1), 3) := by decide +kernel
theorem dX1_split_138 : decode cX1_split 138 = .ok (.goto (-47), 3) := by decide +kernel
theorem dX1_split_141 : decode cX1_split 141 = .ok (.aload_n 0, 1) := by decide +kernel
theorem dX1_split_142 : decode cX1_split 142 = .ok (.dload_n 1, 1) := by decide +kernel
theorem dX1_split_143 : decode cX1_split 143 = .ok (.dconst 0, 1) := by decide +kernel
theorem dX1_split_144 : decode cX1_split 144 = .ok (.dcmp .g, 1) := by decide +kernel
theorem dX1_split_145 : decode cX1_split 145 = .ok (.ifCond .ge 9, 3) := by decide +kernel
theorem dX1_split_148 : decode cX1_split 148 = .ok (.dload_n 3, 1) := by decide +kernel
theorem dX1_split_149 : decode cX1_split 149 = .ok (.d2l, 1) := by decide +kernel
theorem dX1_split_150 : decode cX1_split 150 = .ok (.lneg, 1) := by decide +kernel
theorem dX1_split_151 : decode cX1_split 151 = .ok (.goto 5, 3) := by decide +kernel
theorem dX1_split_154 : decode cX1_split 154 = .ok (.dload_n 3, 1) := by decide +kernel
theorem dX1_split_155 : decode cX1_split 155 = .ok (.d2l, 1) := by decide +kernel
theorem dX1_split_156 : decode cX1_split 156 = .ok (.putfield 37, 3) := by decide +kernel
theorem dX1_split_159 : decode cX1_split 159 = .ok (.return_, 1) := by decide +kernel
def pX1_split_b156 (g : MT) (this : Nat) (p1 : UInt64) (s0 : Nat) (s1 : Int64) (h : CT) : Option CT := tg g s0 1 (lt (sL h s0 3 s1) fun h2 => (some h2))
set_option maxRecDepth 10000 in
set_option maxHeartbeats 4000000 in
theorem pX1_split_b156_ok {X : Cx} {G : Gx} {dk : Nat} {g : MT} {h0 : CT} {this : Nat} {p1 : UInt64} (Z : Zx X G cX1_split RX1 7 dk none none g h0) (hK : 0 ≤ dk) (t0 : gT g this = 1) (s0 : Nat) (s1 : Int64) (h : CT) (hf : pX1_split_b156 g this p1 s0 s1 h = some h0) : J X g h 156 [] [.long s1, va_rf (some s0)] := by
  unfold pX1_split_b156 at hf
  replace hf := tg_i hf
  obtain ⟨t1, hf⟩ := hf
  refine J_putL Z.1 dX1_split_156 fl_X1_37 (fun q => by cases q) t1 rfl rfl (congrArg Value.long (hL_s _ _ _ _)) ?_
  refine J_th (fun h2 eh2 => ?_)
  replace hf := lt_i hf h2 eh2
  cases hf
  exact J_vret Z.1 Z.2.2.2.2.2 dX1_split_159
def pX1_split_b135 (g : MT) (this : Nat) (p1 : UInt64) (k91 : UInt64 → Int32 → CT → Option CT) (l3 : UInt64) (l5 : Int32) (h : CT) : Option CT := lt (l5 + (-1)) fun x1 => (k91 l3 x1 h)
set_option maxRecDepth 10000 in
set_option maxHeartbeats 4000000 in
theorem pX1_split_b135_ok {X : Cx} {G : Gx} {dk : Nat} {g : MT} {h0 : CT} {this : Nat} {p1 : UInt64} {k91 : UInt64 → Int32 → CT → Option CT} (Z : Zx X G cX1_split RX1 7 dk none none g h0) (hK : 0 ≤ dk) (t0 : gT g this = 1) (hk91 : ∀ (l3 : UInt64) (l5 : Int32) (h : CT), k91 l3 l5 h = some h0 → J X g h 91 [(0, va_rf (some this)), (1, .double p1), (3, .double l3), (5, .int l5)] []) (l3 : UInt64) (l5 : Int32) (h : CT) (hf : pX1_split_b135 g this p1 k91 l3 l5 h = some h0) : J X g h 135 [(0, va_rf (some this)), (1, .double p1), (3, .double l3), (5, .int l5)] [] := by
  unfold pX1_split_b135 at hf
  refine J_iinc Z.1 (v := (-1)) (lv2 := [(5, .int (l5 + (-1))), (0, va_rf (some this)), (1, .double p1), (3, .double l3)]) 3 dX1_split_135 rfl (by decide) (zL Z (by decide)) rfl ?_
  obtain ⟨x1, ex1⟩ : ∃ z, z = (l5 + (-1)) := ⟨_, rfl⟩
  replace hf := lt_i hf x1 ex1
  rw [← ex1]
  refine J_goto Z.1 91 dX1_split_138 (by decide) ?_
  refine J_lv [1, 2, 3, 0] rfl ?_
  exact hk91 _ _ _ hf
def pX1_split_b91 (g : MT) (this : Nat) (p1 : UInt64) (k91 : UInt64 → Int32 → CT → Option CT) (l3 : UInt64) (l5 : Int32) (h : CT) : Option CT := if l5 < 0 then if 0 ≤ (Op.cmpValue (FP.dcmp p1 0) .g) then pX1_split_b156 g this p1  this (FP.d2l l3) h else pX1_split_b156 g this p1  this (-(FP.d2l l3)) h else lt (hR h this 2) fun r3 => (nn r3 fun a3 => (tg g a3 22 (ix (gL g a3) l5 (if (Op.cmpValue (FP.dcmp (fdiv l3 (hD h a3 (Int32.toNatClampNeg l5))) 4841369599423283200) .l) < 0 then pX1_split_b135 g this p1 k91 l3 l5 h else lt (hR h this 2) fun r7 => (nn r7 fun a7 => (tg g a7 22 (ix (gL g a7) l5 (lt (fdiv l3 (hD h a7 (Int32.toNatClampNeg l5))) fun x10 => (lt (sI h this 4 ((hI h this 4) + ((1 : Int32) <<< (l5 &&& 31)))) fun h11 => (pX1_split_b135 g this p1 k91 x10 l5 h11))))))))))
set_option maxRecDepth 10000 in
set_option maxHeartbeats 4000000 in
theorem pX1_split_b91_ok {X : Cx} {G : Gx} {dk : Nat} {g : MT} {h0 : CT} {this : Nat} {p1 : UInt64} {k91 : UInt64 → Int32 → CT → Option CT} (Z : Zx X G cX1_split RX1 7 dk none none g h0) (hK : 0 ≤ dk) (t0 : gT g this = 1) (hk91 : ∀ (l3 : UInt64) (l5 : Int32) (h : CT), k91 l3 l5 h = some h0 → J X g h 91 [(0, va_rf (some this)), (1, .double p1), (3, .double l3), (5, .int l5)] []) (l3 : UInt64) (l5 : Int32) (h : CT) (hf : pX1_split_b91 g this p1 k91 l3 l5 h = some h0) : J X g h 91 [(0, va_rf (some this)), (1, .double p1), (3, .double l3), (5, .int l5)] [] := by
  unfold pX1_split_b91 at hf
  refine J_iload Z.1 3 dX1_split_91 rfl ?_
  refine J_if_lt Z.1 141 dX1_split_93 (by decide) (fun c1 => ?_) (fun c1 => ?_)
  · rw [if_pos c1] at hf
    refine J_aload_n Z.1 0 dX1_split_141 rfl rfl ?_
    refine J_dload_n Z.1 1 dX1_split_142 rfl rfl ?_
    refine J_dconst0 Z.1 dX1_split_143 ?_
    refine J_dcmp Z.1 dX1_split_144 ?_
    refine J_if_ge Z.1 154 dX1_split_145 (by decide) (fun c2 => ?_) (fun c2 => ?_)
    · rw [if_pos c2] at hf
      refine J_dload_n Z.1 2 dX1_split_154 rfl rfl ?_
      refine J_d2l Z.1 dX1_split_155 ?_
      refine J_lv [] rfl ?_
      exact pX1_split_b156_ok Z hK t0  _ _ _ hf
    · rw [if_neg c2] at hf
      refine J_dload_n Z.1 2 dX1_split_148 rfl rfl ?_
      refine J_d2l Z.1 dX1_split_149 ?_
      refine J_lneg Z.1 dX1_split_150 ?_
      refine J_goto Z.1 156 dX1_split_151 (by decide) ?_
      refine J_lv [] rfl ?_
      exact pX1_split_b156_ok Z hK t0  _ _ _ hf
  · rw [if_neg c1] at hf
    refine J_dload_n Z.1 2 dX1_split_96 rfl rfl ?_
    refine J_aload_n Z.1 0 dX1_split_97 rfl rfl ?_
    refine J_get (v := va_rf (hR h this 2)) Z.1 dX1_split_98 fl_X1_9 t0 rfl ?_
    refine J_tr (fun r3 er3 => ?_)
    replace hf := lt_i hf r3 er3
    refine J_iload Z.1 3 dX1_split_101 rfl ?_
    replace hf := nn_i hf
    obtain ⟨a3, rfl, hf⟩ := hf
    replace hf := tg_i hf
    obtain ⟨t4, hf⟩ := hf
    replace hf := ix_i hf
    obtain ⟨i5, hf⟩ := hf
    refine J_daload Z.1 dX1_split_103 t4 i5 ?_
    refine J_ddiv Z.1 dX1_split_104 ?_
    refine J_ldc2d Z.1 q_868 (by decide +kernel) dX1_split_105 ?_
    refine J_dcmp Z.1 dX1_split_108 ?_
    refine J_if_lt Z.1 135 dX1_split_109 (by decide) (fun c6 => ?_) (fun c6 => ?_)
    · rw [if_pos c6] at hf
      exact pX1_split_b135_ok Z hK t0 hk91 _ _ _ hf
    · rw [if_neg c6] at hf
      refine J_dload_n Z.1 2 dX1_split_112 rfl rfl ?_
      refine J_aload_n Z.1 0 dX1_split_113 rfl rfl ?_
      refine J_get (v := va_rf (hR h this 2)) Z.1 dX1_split_114 fl_X1_9 t0 rfl ?_
      refine J_tr (fun r7 er7 => ?_)
      replace hf := lt_i hf r7 er7
      refine J_iload Z.1 3 dX1_split_117 rfl ?_
      replace hf := nn_i hf
      obtain ⟨a7, rfl, hf⟩ := hf
      replace hf := tg_i hf
      obtain ⟨t8, hf⟩ := hf
      replace hf := ix_i hf
      obtain ⟨i9, hf⟩ := hf
      refine J_daload Z.1 dX1_split_119 t8 i9 ?_
      refine J_ddiv Z.1 dX1_split_120 ?_
      refine J_td (fun x10 ex10 => ?_)
      replace hf := lt_i hf x10 ex10
      refine J_dstore_n Z.1 (lv2 := [(3, .double x10), (0, va_rf (some this)), (1, .double p1), (5, .int l5)]) dX1_split_121 rfl (zL Z (by decide)) rfl ?_
      refine J_aload_n Z.1 1 dX1_split_122 rfl rfl ?_
      refine J_dup Z.1 dX1_split_123 rfl ?_
      refine J_get (v := .int (hI h this 4)) Z.1 dX1_split_124 fl_X1_42 t0 rfl ?_
      refine J_iconst Z.1 (v := 1) (by decide) dX1_split_127 ?_
      refine J_iload Z.1 3 dX1_split_128 rfl ?_
      refine J_ishl Z.1 dX1_split_130 ?_
      refine J_iadd Z.1 dX1_split_131 ?_
      refine J_putI Z.1 dX1_split_132 fl_X1_42 (fun q => by cases q) t0 rfl rfl (congrArg Value.int (hI_s _ _ _ _)) ?_
      refine J_th (fun h11 eh11 => ?_)
      replace hf := lt_i hf h11 eh11
      refine J_lv [1, 2, 0, 3] rfl ?_
      exact pX1_split_b135_ok Z hK t0 hk91 _ _ _ hf
def pX1_split_l91 (g : MT) (this : Nat) (p1 : UInt64) : Nat → UInt64 → Int32 → CT → Option CT
  | 0, _, _, _ => none
  | n + 1, l3, l5, h => pX1_split_b91 g this p1 (pX1_split_l91 g this p1 n) l3 l5 h
theorem pX1_split_l91_ok {X : Cx} {G : Gx} {dk : Nat} {g : MT} {h0 : CT} {this : Nat} {p1 : UInt64} (Z : Zx X G cX1_split RX1 7 dk none none g h0) (hK : 0 ≤ dk) (t0 : gT g this = 1) : ∀ (n : Nat) (l3 : UInt64) (l5 : Int32) (h : CT), pX1_split_l91 g this p1 n l3 l5 h = some h0 → J X g h 91 [(0, va_rf (some this)), (1, .double p1), (3, .double l3), (5, .int l5)] [] := by
  intro n
  induction n with
  | zero => intro l3 l5 h hf; cases hf
  | succ n ih => intro l3 l5 h hf; exact pX1_split_b91_ok Z hK t0 ih l3 l5 h hf
def pX1_split_b81 (g : MT) (this : Nat) (p1 : UInt64) (k22 : UInt64 → Int32 → CT → Option CT) (l3 : UInt64) (l5 : Int32) (h : CT) : Option CT := lt (l5 + (-1)) fun x1 => (k22 l3 x1 h)
set_option maxRecDepth 10000 in
set_option maxHeartbeats 4000000 in
theorem pX1_split_b81_ok {X : Cx} {G : Gx} {dk : Nat} {g : MT} {h0 : CT} {this : Nat} {p1 : UInt64} {k22 : UInt64 → Int32 → CT → Option CT} (Z : Zx X G cX1_split RX1 7 dk none none g h0) (hK : 0 ≤ dk) (t0 : gT g this = 1) (hk22 : ∀ (l3 : UInt64) (l5 : Int32) (h : CT), k22 l3 l5 h = some h0 → J X g h 22 [(0, va_rf (some this)), (1, .double p1), (3, .double l3), (5, .int l5)] []) (l3 : UInt64) (l5 : Int32) (h : CT) (hf : pX1_split_b81 g this p1 k22 l3 l5 h = some h0) : J X g h 81 [(0, va_rf (some this)), (1, .double p1), (3, .double l3), (5, .int l5)] [] := by
  unfold pX1_split_b81 at hf
  refine J_iinc Z.1 (v := (-1)) (lv2 := [(5, .int (l5 + (-1))), (0, va_rf (some this)), (1, .double p1), (3, .double l3)]) 3 dX1_split_81 rfl (by decide) (zL Z (by decide)) rfl ?_
  obtain ⟨x1, ex1⟩ : ∃ z, z = (l5 + (-1)) := ⟨_, rfl⟩
  replace hf := lt_i hf x1 ex1
  rw [← ex1]
  refine J_goto Z.1 22 dX1_split_84 (by decide) ?_
  refine J_lv [1, 2, 3, 0] rfl ?_
  exact hk22 _ _ _ hf
def pX1_split_b30 (g : MT) (this : Nat) (p1 : UInt64) (k22 : UInt64 → Int32 → CT → Option CT) (k30 : UInt64 → Int32 → Int32 → CT → Option CT) (l3 : UInt64) (l5 : Int32) (l6 : Int32) (h : CT) : Option CT := if 2 ≤ l6 then pX1_split_b81 g this p1 k22 l3 l5 h else lt (hR h this 2) fun r2 => (nn r2 fun a2 => (tg g a2 22 (ix (gL g a2) l5 (if 0 ≤ (Op.cmpValue (FP.dcmp l3 (fdiv 4845873199050653696 (hD h a2 (Int32.toNatClampNeg l5)))) .g) then pX1_split_b81 g this p1 k22 l3 l5 h else lt (hR h this 2) fun r6 => (nn r6 fun a6 => (tg g a6 22 (ix (gL g a6) l5 (lt (fmul l3 (hD h a6 (Int32.toNatClampNeg l5))) fun x9 => (lt (sI h this 4 ((hI h this 4) - ((1 : Int32) <<< (l5 &&& 31)))) fun h10 => (lt (l6 + 1) fun x11 => (k30 x9 l5 x11 h10)))))))))))
set_option maxRecDepth 10000 in
set_option maxHeartbeats 4000000 in
theorem pX1_split_b30_ok {X : Cx} {G : Gx} {dk : Nat} {g : MT} {h0 : CT} {this : Nat} {p1 : UInt64} {k22 : UInt64 → Int32 → CT → Option CT} {k30 : UInt64 → Int32 → Int32 → CT → Option CT} (Z : Zx X G cX1_split RX1 7 dk none none g h0) (hK : 0 ≤ dk) (t0 : gT g this = 1) (hk22 : ∀ (l3 : UInt64) (l5 : Int32) (h : CT), k22 l3 l5 h = some h0 → J X g h 22 [(0, va_rf (some this)), (1, .double p1), (3, .double l3), (5, .int l5)] []) (hk30 : ∀ (l3 : UInt64) (l5 : Int32) (l6 : Int32) (h : CT), k30 l3 l5 l6 h = some h0 → J X g h 30 [(0, va_rf (some this)), (1, .double p1), (3, .double l3), (5, .int l5), (6, .int l6)] []) (l3 : UInt64) (l5 : Int32) (l6 : Int32) (h : CT) (hf : pX1_split_b30 g this p1 k22 k30 l3 l5 l6 h = some h0) : J X g h 30 [(0, va_rf (some this)), (1, .double p1), (3, .double l3), (5, .int l5), (6, .int l6)] [] := by
  unfold pX1_split_b30 at hf
  refine J_iload Z.1 4 dX1_split_30 rfl ?_
  refine J_iconst Z.1 (v := 2) (by decide) dX1_split_32 ?_
  refine J_icmp_ge Z.1 81 dX1_split_33 (by decide) (fun c1 => ?_) (fun c1 => ?_)
  · rw [if_pos c1] at hf
    refine J_lv [0, 1, 2, 3] rfl ?_
    exact pX1_split_b81_ok Z hK t0 hk22 _ _ _ hf
  · rw [if_neg c1] at hf
    refine J_dload_n Z.1 2 dX1_split_36 rfl rfl ?_
    refine J_ldc2d Z.1 q_867 (by decide +kernel) dX1_split_37 ?_
    refine J_aload_n Z.1 0 dX1_split_40 rfl rfl ?_
    refine J_get (v := va_rf (hR h this 2)) Z.1 dX1_split_41 fl_X1_9 t0 rfl ?_
    refine J_tr (fun r2 er2 => ?_)
    replace hf := lt_i hf r2 er2
    refine J_iload Z.1 3 dX1_split_44 rfl ?_
    replace hf := nn_i hf
    obtain ⟨a2, rfl, hf⟩ := hf
    replace hf := tg_i hf
    obtain ⟨t3, hf⟩ := hf
    replace hf := ix_i hf
    obtain ⟨i4, hf⟩ := hf
    refine J_daload Z.1 dX1_split_46 t3 i4 ?_
    refine J_ddiv Z.1 dX1_split_47 ?_
    refine J_dcmp Z.1 dX1_split_48 ?_
    refine J_if_ge Z.1 81 dX1_split_49 (by decide) (fun c5 => ?_) (fun c5 => ?_)
    · rw [if_pos c5] at hf
      refine J_lv [0, 1, 2, 3] rfl ?_
      exact pX1_split_b81_ok Z hK t0 hk22 _ _ _ hf
    · rw [if_neg c5] at hf
      refine J_dload_n Z.1 2 dX1_split_52 rfl rfl ?_
      refine J_aload_n Z.1 0 dX1_split_53 rfl rfl ?_
      refine J_get (v := va_rf (hR h this 2)) Z.1 dX1_split_54 fl_X1_9 t0 rfl ?_
      refine J_tr (fun r6 er6 => ?_)
      replace hf := lt_i hf r6 er6
      refine J_iload Z.1 3 dX1_split_57 rfl ?_
      replace hf := nn_i hf
      obtain ⟨a6, rfl, hf⟩ := hf
      replace hf := tg_i hf
      obtain ⟨t7, hf⟩ := hf
      replace hf := ix_i hf
      obtain ⟨i8, hf⟩ := hf
      refine J_daload Z.1 dX1_split_59 t7 i8 ?_
      refine J_dmul Z.1 dX1_split_60 ?_
      refine J_td (fun x9 ex9 => ?_)
      replace hf := lt_i hf x9 ex9
      refine J_dstore_n Z.1 (lv2 := [(3, .double x9), (0, va_rf (some this)), (1, .double p1), (5, .int l5), (6, .int l6)]) dX1_split_61 rfl (zL Z (by decide)) rfl ?_
      refine J_aload_n Z.1 1 dX1_split_62 rfl rfl ?_
      refine J_dup Z.1 dX1_split_63 rfl ?_
      refine J_get (v := .int (hI h this 4)) Z.1 dX1_split_64 fl_X1_42 t0 rfl ?_
      refine J_iconst Z.1 (v := 1) (by decide) dX1_split_67 ?_
      refine J_iload Z.1 3 dX1_split_68 rfl ?_
      refine J_ishl Z.1 dX1_split_70 ?_
      refine J_isub Z.1 dX1_split_71 ?_
      refine J_putI Z.1 dX1_split_72 fl_X1_42 (fun q => by cases q) t0 rfl rfl (congrArg Value.int (hI_s _ _ _ _)) ?_
      refine J_th (fun h10 eh10 => ?_)
      replace hf := lt_i hf h10 eh10
      refine J_iinc Z.1 (v := 1) (lv2 := [(6, .int (l6 + 1)), (3, .double x9), (0, va_rf (some this)), (1, .double p1), (5, .int l5)]) 4 dX1_split_75 rfl (by decide) (zL Z (by decide)) rfl ?_
      obtain ⟨x11, ex11⟩ : ∃ z, z = (l6 + 1) := ⟨_, rfl⟩
      replace hf := lt_i hf x11 ex11
      rw [← ex11]
      refine J_goto Z.1 30 dX1_split_78 (by decide) ?_
      refine J_lv [2, 3, 1, 4, 0] rfl ?_
      exact hk30 _ _ _ _ hf
def pX1_split_l30 (g : MT) (this : Nat) (p1 : UInt64) (k22 : UInt64 → Int32 → CT → Option CT) : Nat → UInt64 → Int32 → Int32 → CT → Option CT
  | 0, _, _, _, _ => none
  | n + 1, l3, l5, l6, h => pX1_split_b30 g this p1 k22 (pX1_split_l30 g this p1 k22 n) l3 l5 l6 h
theorem pX1_split_l30_ok {X : Cx} {G : Gx} {dk : Nat} {g : MT} {h0 : CT} {this : Nat} {p1 : UInt64} {k22 : UInt64 → Int32 → CT → Option CT} (Z : Zx X G cX1_split RX1 7 dk none none g h0) (hK : 0 ≤ dk) (t0 : gT g this = 1) (hk22 : ∀ (l3 : UInt64) (l5 : Int32) (h : CT), k22 l3 l5 h = some h0 → J X g h 22 [(0, va_rf (some this)), (1, .double p1), (3, .double l3), (5, .int l5)] []) : ∀ (n : Nat) (l3 : UInt64) (l5 : Int32) (l6 : Int32) (h : CT), pX1_split_l30 g this p1 k22 n l3 l5 l6 h = some h0 → J X g h 30 [(0, va_rf (some this)), (1, .double p1), (3, .double l3), (5, .int l5), (6, .int l6)] [] := by
  intro n
  induction n with
  | zero => intro l3 l5 l6 h hf; cases hf
  | succ n ih => intro l3 l5 l6 h hf; exact pX1_split_b30_ok Z hK t0 hk22 ih l3 l5 l6 h hf
def pX1_split_b22 (g : MT) (this : Nat) (p1 : UInt64) (k22 : UInt64 → Int32 → CT → Option CT) (l3 : UInt64) (l5 : Int32) (h : CT) : Option CT := if l5 < 0 then pX1_split_l91 g this p1  FUEL l3 9 h else pX1_split_l30 g this p1 k22 FUEL l3 l5 0 h
set_option maxRecDepth 10000 in
set_option maxHeartbeats 4000000 in
theorem pX1_split_b22_ok {X : Cx} {G : Gx} {dk : Nat} {g : MT} {h0 : CT} {this : Nat} {p1 : UInt64} {k22 : UInt64 → Int32 → CT → Option CT} (Z : Zx X G cX1_split RX1 7 dk none none g h0) (hK : 0 ≤ dk) (t0 : gT g this = 1) (hk22 : ∀ (l3 : UInt64) (l5 : Int32) (h : CT), k22 l3 l5 h = some h0 → J X g h 22 [(0, va_rf (some this)), (1, .double p1), (3, .double l3), (5, .int l5)] []) (l3 : UInt64) (l5 : Int32) (h : CT) (hf : pX1_split_b22 g this p1 k22 l3 l5 h = some h0) : J X g h 22 [(0, va_rf (some this)), (1, .double p1), (3, .double l3), (5, .int l5)] [] := by
  unfold pX1_split_b22 at hf
  refine J_iload Z.1 3 dX1_split_22 rfl ?_
  refine J_if_lt Z.1 87 dX1_split_24 (by decide) (fun c1 => ?_) (fun c1 => ?_)
  · rw [if_pos c1] at hf
    refine J_bipush Z.1 (v := 9) (by decide) dX1_split_87 ?_
    refine J_istore Z.1 (lv2 := [(5, .int 9), (0, va_rf (some this)), (1, .double p1), (3, .double l3)]) dX1_split_89 (zL Z (by decide)) rfl ?_
    refine J_lv [1, 2, 3, 0] rfl ?_
    exact pX1_split_l91_ok Z hK t0  FUEL _ _ _ hf
  · rw [if_neg c1] at hf
    refine J_iconst Z.1 (v := 0) (by decide) dX1_split_27 ?_
    refine J_istore Z.1 (lv2 := [(6, .int 0), (0, va_rf (some this)), (1, .double p1), (3, .double l3), (5, .int l5)]) dX1_split_28 (zL Z (by decide)) rfl ?_
    refine J_lv [1, 2, 3, 4, 0] rfl ?_
    exact pX1_split_l30_ok Z hK t0 hk22 FUEL _ _ _ _ hf
def pX1_split_l22 (g : MT) (this : Nat) (p1 : UInt64) : Nat → UInt64 → Int32 → CT → Option CT
  | 0, _, _, _ => none
  | n + 1, l3, l5, h => pX1_split_b22 g this p1 (pX1_split_l22 g this p1 n) l3 l5 h
theorem pX1_split_l22_ok {X : Cx} {G : Gx} {dk : Nat} {g : MT} {h0 : CT} {this : Nat} {p1 : UInt64} (Z : Zx X G cX1_split RX1 7 dk none none g h0) (hK : 0 ≤ dk) (t0 : gT g this = 1) : ∀ (n : Nat) (l3 : UInt64) (l5 : Int32) (h : CT), pX1_split_l22 g this p1 n l3 l5 h = some h0 → J X g h 22 [(0, va_rf (some this)), (1, .double p1), (3, .double l3), (5, .int l5)] [] := by
  intro n
  induction n with
  | zero => intro l3 l5 h hf; cases hf
  | succ n ih => intro l3 l5 h hf; exact pX1_split_b22_ok Z hK t0 ih l3 l5 h hf
def pX1_split_b12 (g : MT) (this : Nat) (p1 : UInt64) (s0 : UInt64) (h : CT) : Option CT := lt (sI h this 4 0) fun h1 => (pX1_split_l22 g this p1  FUEL s0 9 h1)
set_option maxRecDepth 10000 in
set_option maxHeartbeats 4000000 in
theorem pX1_split_b12_ok {X : Cx} {G : Gx} {dk : Nat} {g : MT} {h0 : CT} {this : Nat} {p1 : UInt64} (Z : Zx X G cX1_split RX1 7 dk none none g h0) (hK : 0 ≤ dk) (t0 : gT g this = 1) (s0 : UInt64) (h : CT) (hf : pX1_split_b12 g this p1 s0 h = some h0) : J X g h 12 [(0, va_rf (some this)), (1, .double p1)] [.double s0] := by
  unfold pX1_split_b12 at hf
  refine J_dstore_n Z.1 (lv2 := [(3, .double s0), (0, va_rf (some this)), (1, .double p1)]) dX1_split_12 rfl (zL Z (by decide)) rfl ?_
  refine J_aload_n Z.1 1 dX1_split_13 rfl rfl ?_
  refine J_iconst Z.1 (v := 0) (by decide) dX1_split_14 ?_
  refine J_putI Z.1 dX1_split_15 fl_X1_42 (fun q => by cases q) t0 rfl rfl (congrArg Value.int (hI_s _ _ _ _)) ?_
  refine J_th (fun h1 eh1 => ?_)
  replace hf := lt_i hf h1 eh1
  refine J_bipush Z.1 (v := 9) (by decide) dX1_split_18 ?_
  refine J_istore Z.1 (lv2 := [(5, .int 9), (3, .double s0), (0, va_rf (some this)), (1, .double p1)]) dX1_split_20 (zL Z (by decide)) rfl ?_
  refine J_lv [2, 3, 1, 0] rfl ?_
  exact pX1_split_l22_ok Z hK t0  FUEL _ _ _ hf
def pX1_split (g : MT) (h : CT) (this : Nat) (p1 : UInt64) : Option CT := tg g this 1 (if 0 ≤ (Op.cmpValue (FP.dcmp p1 0) .g) then pX1_split_b12 g this p1  p1 h else pX1_split_b12 g this p1  (fneg p1) h)
set_option maxRecDepth 10000 in
set_option maxHeartbeats 4000000 in
theorem pX1_split_ok (G : Gx) (dk : Nat) (hK : 0 ≤ dk) {g : MT} {h h0 : CT} {this : Nat} {p1 : UInt64} (hf : pX1_split g h this p1 = some h0) : Ctr G dk yX1_split cX1_split 7 none [va_rf (some this), .double p1] g h none g h0 := by
  refine Ctr.ofZ (lv := [(0, va_rf (some this)), (1, .double p1)]) (by decide +kernel) (by simp [cat_i, cat_l, cat_d, cat_rf]) rfl fun X Z => ?_
  unfold pX1_split at hf
  replace hf := tg_i hf
  obtain ⟨t0, hf⟩ := hf
  refine J_dload_n Z.1 1 dX1_split_0 rfl rfl ?_
  refine J_dconst0 Z.1 dX1_split_1 ?_
  refine J_dcmp Z.1 dX1_split_2 ?_
  refine J_if_ge Z.1 11 dX1_split_3 (by decide) (fun c1 => ?_) (fun c1 => ?_)
  · rw [if_pos c1] at hf
    refine J_dload_n Z.1 1 dX1_split_11 rfl rfl ?_
    exact pX1_split_b12_ok Z hK t0  _ _ hf
  · rw [if_neg c1] at hf
    refine J_dload_n Z.1 1 dX1_split_6 rfl rfl ?_
    refine J_dneg Z.1 dX1_split_7 ?_
    refine J_goto Z.1 12 dX1_split_8 (by decide) ?_
    exact pX1_split_b12_ok Z hK t0  _ _ hf
theorem dX1_join_0 : decode cX1_join 0 = .ok (.lload_n 1, 1) := by decide +kernel
theorem dX1_join_1 : decode cX1_join 1 = .ok (.l2d, 1) := by decide +kernel
theorem dX1_join_2 : decode cX1_join 2 = .ok (.dstore 4, 2) := by decide +kernel
theorem dX1_join_4 : decode cX1_join 4 = .ok (.iload_n 3, 1) := by decide +kernel
theorem dX1_join_5 : decode cX1_join 5 = .ok (.ifCond .ge 8, 3) := by decide +kernel
theorem dX1_join_8 : decode cX1_join 8 = .ok (.iload_n 3, 1) := by decide +kernel
theorem dX1_join_9 : decode cX1_join 9 = .ok (.ineg, 1) := by decide +kernel
theorem dX1_join_10 : decode cX1_join 10 = .ok (.goto 4, 3) := by decide +kernel
theorem dX1_join_13 : decode cX1_join 13 = .ok (.iload_n 3, 1) := by decide +kernel
theorem dX1_join_14 : decode cX1_join 14 = .ok (.istore 6, 2) := by decide +kernel
theorem dX1_join_16 : decode cX1_join 16 = .ok (.bipush 9, 2) := by decide +kernel
theorem dX1_join_18 : decode cX1_join 18 = .ok (.istore 7, 2) := by decide +kernel
theorem dX1_join_20 : decode cX1_join 20 = .ok (.iload 7, 2) := by decide +kernel
theorem dX1_join_22 : decode cX1_join 22 = .ok (.ifCond .lt 71, 3) := by decide +kernel
theorem dX1_join_25 : decode cX1_join 25 = .ok (.iconst 0, 1) := by decide +kernel
theorem dX1_join_26 : decode cX1_join 26 = .ok (.istore 8, 2) := by decide +kernel
theorem dX1_join_28 : decode cX1_join 28 = .ok (.iload 8, 2) := by decide +kernel
theorem dX1_join_30 : decode cX1_join 30 = .ok (.iconst 2, 1) := by decide +kernel
theorem dX1_join_31 : decode cX1_join 31 = .ok (.if_icmp .ge 56, 3) := by decide +kernel
theorem dX1_join_34 : decode cX1_join 34 = .ok (.iload 6, 2) := by decide +kernel
theorem dX1_join_36 : decode cX1_join 36 = .ok (.iconst 1, 1) := by decide +kernel
theorem dX1_join_37 : decode cX1_join 37 = .ok (.iload 7, 2) := by decide +kernel
theorem dX1_join_39 : decode cX1_join 39 = .ok (.ishl, 1) := by decide +kernel
theorem dX1_join_40 : decode cX1_join 40 = .ok (.if_icmp .lt 47, 3) := by decide +kernel
theorem dX1_join_43 : decode cX1_join 43 = .ok (.iload_n 3, 1) := by decide +kernel
theorem dX1_join_44 : decode cX1_join 44 = .ok (.ifCond .ge 16, 3) := by decide +kernel
theorem dX1_join_47 : decode cX1_join 47 = .ok (.dload 4, 2) := by decide +kernel
theorem dX1_join_49 : decode cX1_join 49 = .ok (.aload_n 0, 1) := by decide +kernel
theorem dX1_join_50 : decode cX1_join 50 = .ok (.getfield 9, 3) := by decide +kernel
theorem dX1_join_53 : decode cX1_join 53 = .ok (.iload 7, 2) := by decide +kernel
theorem dX1_join_55 : decode cX1_join 55 = .ok (.daload, 1) := by decide +kernel
theorem dX1_join_56 : decode cX1_join 56 = .ok (.ddiv, 1) := by decide +kernel
theorem dX1_join_57 : decode cX1_join 57 = .ok (.goto 13, 3) := by decide +kernel
theorem dX1_join_60 : decode cX1_join 60 = .ok (.dload 4, 2) := by decide +kernel
theorem dX1_join_62 : decode cX1_join 62 = .ok (.aload_n 0, 1) := by decide +kernel
theorem dX1_join_63 : decode cX1_join 63 = .ok (.getfield 9, 3) := by decide +kernel
theorem dX1_join_66 : decode cX1_join 66 = .ok (.iload 7, 2) := by decide +kernel
theorem dX1_join_68 : decode cX1_join 68 = .ok (.daload, 1) := by decide +kernel
theorem dX1_join_69 : decode cX1_join 69 = .ok (.dmul, 1) := by decide +kernel
theorem dX1_join_70 : decode cX1_join 70 = .ok (.dstore 4, 2) := by decide +kernel
theorem dX1_join_72 : decode cX1_join 72 = .ok (.iload 6, 2) := by decide +kernel
theorem dX1_join_74 : decode cX1_join 74 = .ok (.iconst 1, 1) := by decide +kernel
theorem dX1_join_75 : decode cX1_join 75 = .ok (.iload 7, 2) := by decide +kernel
theorem dX1_join_77 : decode cX1_join 77 = .ok (.ishl, 1) := by decide +kernel
theorem dX1_join_78 : decode cX1_join 78 = .ok (.isub, 1) := by decide +kernel
theorem dX1_join_79 : decode cX1_join 79 = .ok (.istore 6, 2) := by decide +kernel
theorem dX1_join_81 : decode cX1_join 81 = .ok (.iinc 8 1, 3) := by decide +kernel
theorem dX1_join_84 : decode cX1_join 84 = .ok (.goto (-56), 3) := by decide +kernel
theorem dX1_join_87 : decode cX1_join 87 = .ok (.iinc 7 (-1), 3) := by decide +kernel
theorem dX1_join_90 : decode cX1_join 90 = .ok (.goto (-70), 3) := by decide +kernel
theorem dX1_join_93 : decode cX1_join 93 = .ok (.dload 4, 2) := by decide +kernel
theorem dX1_join_95 : decode cX1_join 95 = .ok (.dreturn, 1) := by decide +kernel
def pX1_join_b87 (g : MT) (h : CT) (this : Nat) (p1 : Int64) (p3 : Int32) (k20 : UInt64 → Int32 → Int32 → Option UInt64) (l4 : UInt64) (l6 : Int32) (l7 : Int32) : Option UInt64 := lt (l7 + (-1)) fun x1 => (k20 l4 l6 x1)
set_option maxRecDepth 10000 in
set_option maxHeartbeats 4000000 in
theorem pX1_join_b87_ok {X : Cx} {G : Gx} {dk : Nat} {g : MT} {r0 : UInt64} {h : CT} {this : Nat} {p1 : Int64} {p3 : Int32} {k20 : UInt64 → Int32 → Int32 → Option UInt64} (Z : Zx X G cX1_join RX1 9 dk (some .double) (some (.double r0)) g h) (hK : 0 ≤ dk) (t0 : gT g this = 1) (hk20 : ∀ (l4 : UInt64) (l6 : Int32) (l7 : Int32), k20 l4 l6 l7 = some r0 → J X g h 20 [(0, va_rf (some this)), (3, .int p3), (4, .double l4), (6, .int l6), (7, .int l7)] []) (l4 : UInt64) (l6 : Int32) (l7 : Int32) (hf : pX1_join_b87 g h this p1 p3 k20 l4 l6 l7 = some r0) : J X g h 87 [(0, va_rf (some this)), (3, .int p3), (4, .double l4), (6, .int l6), (7, .int l7)] [] := by
  unfold pX1_join_b87 at hf
  refine J_iinc Z.1 (v := (-1)) (lv2 := [(7, .int (l7 + (-1))), (0, va_rf (some this)), (3, .int p3), (4, .double l4), (6, .int l6)]) 4 dX1_join_87 rfl (by decide) (zL Z (by decide)) rfl ?_
  obtain ⟨x1, ex1⟩ : ∃ z, z = (l7 + (-1)) := ⟨_, rfl⟩
  replace hf := lt_i hf x1 ex1
  rw [← ex1]
  refine J_goto Z.1 20 dX1_join_90 (by decide) ?_
  refine J_lv [1, 2, 3, 4, 0] rfl ?_
  exact hk20 _ _ _ hf
def pX1_join_b70 (g : MT) (h : CT) (this : Nat) (p1 : Int64) (p3 : Int32) (k20 : UInt64 → Int32 → Int32 → Option UInt64) (k28 : UInt64 → Int32 → Int32 → Int32 → Option UInt64) (l6 : Int32) (l7 : Int32) (l8 : Int32) (s0 : UInt64) : Option UInt64 := lt (l6 - ((1 : Int32) <<< (l7 &&& 31))) fun x1 => (lt (l8 + 1) fun x2 => (k28 s0 x1 l7 x2))
set_option maxRecDepth 10000 in
set_option maxHeartbeats 4000000 in
theorem pX1_join_b70_ok {X : Cx} {G : Gx} {dk : Nat} {g : MT} {r0 : UInt64} {h : CT} {this : Nat} {p1 : Int64} {p3 : Int32} {k20 : UInt64 → Int32 → Int32 → Option UInt64} {k28 : UInt64 → Int32 → Int32 → Int32 → Option UInt64} (Z : Zx X G cX1_join RX1 9 dk (some .double) (some (.double r0)) g h) (hK : 0 ≤ dk) (t0 : gT g this = 1) (hk20 : ∀ (l4 : UInt64) (l6 : Int32) (l7 : Int32), k20 l4 l6 l7 = some r0 → J X g h 20 [(0, va_rf (some this)), (3, .int p3), (4, .double l4), (6, .int l6), (7, .int l7)] []) (hk28 : ∀ (l4 : UInt64) (l6 : Int32) (l7 : Int32) (l8 : Int32), k28 l4 l6 l7 l8 = some r0 → J X g h 28 [(0, va_rf (some this)), (3, .int p3), (4, .double l4), (6, .int l6), (7, .int l7), (8, .int l8)] []) (l6 : Int32) (l7 : Int32) (l8 : Int32) (s0 : UInt64) (hf : pX1_join_b70 g h this p1 p3 k20 k28 l6 l7 l8 s0 = some r0) : J X g h 70 [(0, va_rf (some this)), (3, .int p3), (6, .int l6), (7, .int l7), (8, .int l8)] [.double s0] := by
  unfold pX1_join_b70 at hf
  refine J_dstore Z.1 (lv2 := [(4, .double s0), (0, va_rf (some this)), (3, .int p3), (6, .int l6), (7, .int l7), (8, .int l8)]) dX1_join_70 (zL Z (by decide)) rfl ?_
  refine J_iload Z.1 3 dX1_join_72 rfl ?_
  refine J_iconst Z.1 (v := 1) (by decide) dX1_join_74 ?_
  refine J_iload Z.1 4 dX1_join_75 rfl ?_
  refine J_ishl Z.1 dX1_join_77 ?_
  refine J_isub Z.1 dX1_join_78 ?_
  refine J_ti (fun x1 ex1 => ?_)
  replace hf := lt_i hf x1 ex1
  refine J_istore Z.1 (lv2 := [(6, .int x1), (4, .double s0), (0, va_rf (some this)), (3, .int p3), (7, .int l7), (8, .int l8)]) dX1_join_79 (zL Z (by decide)) rfl ?_
  refine J_iinc Z.1 (v := 1) (lv2 := [(8, .int (l8 + 1)), (6, .int x1), (4, .double s0), (0, va_rf (some this)), (3, .int p3), (7, .int l7)]) 5 dX1_join_81 rfl (by decide) (zL Z (by decide)) rfl ?_
  obtain ⟨x2, ex2⟩ : ∃ z, z = (l8 + 1) := ⟨_, rfl⟩
  replace hf := lt_i hf x2 ex2
  rw [← ex2]
  refine J_goto Z.1 28 dX1_join_84 (by decide) ?_
  refine J_lv [3, 4, 2, 1, 5, 0] rfl ?_
  exact hk28 _ _ _ _ hf
def pX1_join_b28 (g : MT) (h : CT) (this : Nat) (p1 : Int64) (p3 : Int32) (k20 : UInt64 → Int32 → Int32 → Option UInt64) (k28 : UInt64 → Int32 → Int32 → Int32 → Option UInt64) (l4 : UInt64) (l6 : Int32) (l7 : Int32) (l8 : Int32) : Option UInt64 := if 2 ≤ l8 then pX1_join_b87 g h this p1 p3 k20 l4 l6 l7 else if l6 < ((1 : Int32) <<< (l7 &&& 31)) then pX1_join_b87 g h this p1 p3 k20 l4 l6 l7 else if 0 ≤ p3 then lt (hR h this 2) fun r4 => (nn r4 fun a4 => (tg g a4 22 (ix (gL g a4) l7 (pX1_join_b70 g h this p1 p3 k20 k28 l6 l7 l8 (fmul l4 (hD h a4 (Int32.toNatClampNeg l7))))))) else lt (hR h this 2) fun r7 => (nn r7 fun a7 => (tg g a7 22 (ix (gL g a7) l7 (pX1_join_b70 g h this p1 p3 k20 k28 l6 l7 l8 (fdiv l4 (hD h a7 (Int32.toNatClampNeg l7)))))))
set_option maxRecDepth 10000 in
set_option maxHeartbeats 4000000 in
theorem pX1_join_b28_ok {X : Cx} {G : Gx} {dk : Nat} {g : MT} {r0 : UInt64} {h : CT} {this : Nat} {p1 : Int64} {p3 : Int32} {k20 : UInt64 → Int32 → Int32 → Option UInt64} {k28 : UInt64 → Int32 → Int32 → Int32 → Option UInt64} (Z : Zx X G cX1_join RX1 9 dk (some .double) (some (.double r0)) g h) (hK : 0 ≤ dk) (t0 : gT g this = 1) (hk20 : ∀ (l4 : UInt64) (l6 : Int32) (l7 : Int32), k20 l4 l6 l7 = some r0 → J X g h 20 [(0, va_rf (some this)), (3, .int p3), (4, .double l4), (6, .int l6), (7, .int l7)] []) (hk28 : ∀ (l4 : UInt64) (l6 : Int32) (l7 : Int32) (l8 : Int32), k28 l4 l6 l7 l8 = some r0 → J X g h 28 [(0, va_rf (some this)), (3, .int p3), (4, .double l4), (6, .int l6), (7, .int l7), (8, .int l8)] []) (l4 : UInt64) (l6 : Int32) (l7 : Int32) (l8 : Int32) (hf : pX1_join_b28 g h this p1 p3 k20 k28 l4 l6 l7 l8 = some r0) : J X g h 28 [(0, va_rf (some this)), (3, .int p3), (4, .double l4), (6, .int l6), (7, .int l7), (8, .int l8)] [] := by
  unfold pX1_join_b28 at hf
  refine J_iload Z.1 5 dX1_join_28 rfl ?_
  refine J_iconst Z.1 (v := 2) (by decide) dX1_join_30 ?_
  refine J_icmp_ge Z.1 87 dX1_join_31 (by decide) (fun c1 => ?_) (fun c1 => ?_)
  · rw [if_pos c1] at hf
    refine J_lv [0, 1, 2, 3, 4] rfl ?_
    exact pX1_join_b87_ok Z hK t0 hk20 _ _ _ hf
  · rw [if_neg c1] at hf
    refine J_iload Z.1 3 dX1_join_34 rfl ?_
    refine J_iconst Z.1 (v := 1) (by decide) dX1_join_36 ?_
    refine J_iload Z.1 4 dX1_join_37 rfl ?_
    refine J_ishl Z.1 dX1_join_39 ?_
    refine J_icmp_lt Z.1 87 dX1_join_40 (by decide) (fun c2 => ?_) (fun c2 => ?_)
    · rw [if_pos c2] at hf
      refine J_lv [0, 1, 2, 3, 4] rfl ?_
      exact pX1_join_b87_ok Z hK t0 hk20 _ _ _ hf
    · rw [if_neg c2] at hf
      refine J_iload_n Z.1 1 dX1_join_43 rfl rfl ?_
      refine J_if_ge Z.1 60 dX1_join_44 (by decide) (fun c3 => ?_) (fun c3 => ?_)
      · rw [if_pos c3] at hf
        refine J_dload Z.1 2 dX1_join_60 rfl ?_
        refine J_aload_n Z.1 0 dX1_join_62 rfl rfl ?_
        refine J_get (v := va_rf (hR h this 2)) Z.1 dX1_join_63 fl_X1_9 t0 rfl ?_
        refine J_tr (fun r4 er4 => ?_)
        replace hf := lt_i hf r4 er4
        refine J_iload Z.1 4 dX1_join_66 rfl ?_
        replace hf := nn_i hf
        obtain ⟨a4, rfl, hf⟩ := hf
        replace hf := tg_i hf
        obtain ⟨t5, hf⟩ := hf
        replace hf := ix_i hf
        obtain ⟨i6, hf⟩ := hf
        refine J_daload Z.1 dX1_join_68 t5 i6 ?_
        refine J_dmul Z.1 dX1_join_69 ?_
        refine J_lv [0, 1, 3, 4, 5] rfl ?_
        exact pX1_join_b70_ok Z hK t0 hk20 hk28 _ _ _ _ hf
      · rw [if_neg c3] at hf
        refine J_dload Z.1 2 dX1_join_47 rfl ?_
        refine J_aload_n Z.1 0 dX1_join_49 rfl rfl ?_
        refine J_get (v := va_rf (hR h this 2)) Z.1 dX1_join_50 fl_X1_9 t0 rfl ?_
        refine J_tr (fun r7 er7 => ?_)
        replace hf := lt_i hf r7 er7
        refine J_iload Z.1 4 dX1_join_53 rfl ?_
        replace hf := nn_i hf
        obtain ⟨a7, rfl, hf⟩ := hf
        replace hf := tg_i hf
        obtain ⟨t8, hf⟩ := hf
        replace hf := ix_i hf
        obtain ⟨i9, hf⟩ := hf
        refine J_daload Z.1 dX1_join_55 t8 i9 ?_
        refine J_ddiv Z.1 dX1_join_56 ?_
        refine J_goto Z.1 70 dX1_join_57 (by decide) ?_
        refine J_lv [0, 1, 3, 4, 5] rfl ?_
        exact pX1_join_b70_ok Z hK t0 hk20 hk28 _ _ _ _ hf
def pX1_join_l28 (g : MT) (h : CT) (this : Nat) (p1 : Int64) (p3 : Int32) (k20 : UInt64 → Int32 → Int32 → Option UInt64) : Nat → UInt64 → Int32 → Int32 → Int32 → Option UInt64
  | 0, _, _, _, _ => none
  | n + 1, l4, l6, l7, l8 => pX1_join_b28 g h this p1 p3 k20 (pX1_join_l28 g h this p1 p3 k20 n) l4 l6 l7 l8
theorem pX1_join_l28_ok {X : Cx} {G : Gx} {dk : Nat} {g : MT} {r0 : UInt64} {h : CT} {this : Nat} {p1 : Int64} {p3 : Int32} {k20 : UInt64 → Int32 → Int32 → Option UInt64} (Z : Zx X G cX1_join RX1 9 dk (some .double) (some (.double r0)) g h) (hK : 0 ≤ dk) (t0 : gT g this = 1) (hk20 : ∀ (l4 : UInt64) (l6 : Int32) (l7 : Int32), k20 l4 l6 l7 = some r0 → J X g h 20 [(0, va_rf (some this)), (3, .int p3), (4, .double l4), (6, .int l6), (7, .int l7)] []) : ∀ (n : Nat) (l4 : UInt64) (l6 : Int32) (l7 : Int32) (l8 : Int32), pX1_join_l28 g h this p1 p3 k20 n l4 l6 l7 l8 = some r0 → J X g h 28 [(0, va_rf (some this)), (3, .int p3), (4, .double l4), (6, .int l6), (7, .int l7), (8, .int l8)] [] := by
  intro n
  induction n with
  | zero => intro l4 l6 l7 l8 hf; cases hf
  | succ n ih => intro l4 l6 l7 l8 hf; exact pX1_join_b28_ok Z hK t0 hk20 ih l4 l6 l7 l8 hf
def pX1_join_b20 (g : MT) (h : CT) (this : Nat) (p1 : Int64) (p3 : Int32) (k20 : UInt64 → Int32 → Int32 → Option UInt64) (l4 : UInt64) (l6 : Int32) (l7 : Int32) : Option UInt64 := if l7 < 0 then some l4 else pX1_join_l28 g h this p1 p3 k20 FUEL l4 l6 l7 0
set_option maxRecDepth 10000 in
set_option maxHeartbeats 4000000 in
theorem pX1_join_b20_ok {X : Cx} {G : Gx} {dk : Nat} {g : MT} {r0 : UInt64} {h : CT} {this : Nat} {p1 : Int64} {p3 : Int32} {k20 : UInt64 → Int32 → Int32 → Option UInt64} (Z : Zx X G cX1_join RX1 9 dk (some .double) (some (.double r0)) g h) (hK : 0 ≤ dk) (t0 : gT g this = 1) (hk20 : ∀ (l4 : UInt64) (l6 : Int32) (l7 : Int32), k20 l4 l6 l7 = some r0 → J X g h 20 [(0, va_rf (some this)), (3, .int p3), (4, .double l4), (6, .int l6), (7, .int l7)] []) (l4 : UInt64) (l6 : Int32) (l7 : Int32) (hf : pX1_join_b20 g h this p1 p3 k20 l4 l6 l7 = some r0) : J X g h 20 [(0, va_rf (some this)), (3, .int p3), (4, .double l4), (6, .int l6), (7, .int l7)] [] := by
  unfold pX1_join_b20 at hf
  refine J_iload Z.1 4 dX1_join_20 rfl ?_
  refine J_if_lt Z.1 93 dX1_join_22 (by decide) (fun c1 => ?_) (fun c1 => ?_)
  · rw [if_pos c1] at hf
    refine J_dload Z.1 2 dX1_join_93 rfl ?_
    cases hf
    exact J_dret Z.1 Z.2.2.2.2.2 dX1_join_95
  · rw [if_neg c1] at hf
    refine J_iconst Z.1 (v := 0) (by decide) dX1_join_25 ?_
    refine J_istore Z.1 (lv2 := [(8, .int 0), (0, va_rf (some this)), (3, .int p3), (4, .double l4), (6, .int l6), (7, .int l7)]) dX1_join_26 (zL Z (by decide)) rfl ?_
    refine J_lv [1, 2, 3, 4, 5, 0] rfl ?_
    exact pX1_join_l28_ok Z hK t0 hk20 FUEL _ _ _ _ hf
def pX1_join_l20 (g : MT) (h : CT) (this : Nat) (p1 : Int64) (p3 : Int32) : Nat → UInt64 → Int32 → Int32 → Option UInt64
  | 0, _, _, _ => none
  | n + 1, l4, l6, l7 => pX1_join_b20 g h this p1 p3 (pX1_join_l20 g h this p1 p3 n) l4 l6 l7
theorem pX1_join_l20_ok {X : Cx} {G : Gx} {dk : Nat} {g : MT} {r0 : UInt64} {h : CT} {this : Nat} {p1 : Int64} {p3 : Int32} (Z : Zx X G cX1_join RX1 9 dk (some .double) (some (.double r0)) g h) (hK : 0 ≤ dk) (t0 : gT g this = 1) : ∀ (n : Nat) (l4 : UInt64) (l6 : Int32) (l7 : Int32), pX1_join_l20 g h this p1 p3 n l4 l6 l7 = some r0 → J X g h 20 [(0, va_rf (some this)), (3, .int p3), (4, .double l4), (6, .int l6), (7, .int l7)] [] := by
  intro n
  induction n with
  | zero => intro l4 l6 l7 hf; cases hf
  | succ n ih => intro l4 l6 l7 hf; exact pX1_join_b20_ok Z hK t0 ih l4 l6 l7 hf
def pX1_join_b14 (g : MT) (h : CT) (this : Nat) (p1 : Int64) (p3 : Int32) (l4 : UInt64) (s0 : Int32) : Option UInt64 := pX1_join_l20 g h this p1 p3  FUEL l4 s0 9
set_option maxRecDepth 10000 in
set_option maxHeartbeats 4000000 in
theorem pX1_join_b14_ok {X : Cx} {G : Gx} {dk : Nat} {g : MT} {r0 : UInt64} {h : CT} {this : Nat} {p1 : Int64} {p3 : Int32} (Z : Zx X G cX1_join RX1 9 dk (some .double) (some (.double r0)) g h) (hK : 0 ≤ dk) (t0 : gT g this = 1) (l4 : UInt64) (s0 : Int32) (hf : pX1_join_b14 g h this p1 p3 l4 s0 = some r0) : J X g h 14 [(0, va_rf (some this)), (3, .int p3), (4, .double l4)] [.int s0] := by
  unfold pX1_join_b14 at hf
  refine J_istore Z.1 (lv2 := [(6, .int s0), (0, va_rf (some this)), (3, .int p3), (4, .double l4)]) dX1_join_14 (zL Z (by decide)) rfl ?_
  refine J_bipush Z.1 (v := 9) (by decide) dX1_join_16 ?_
  refine J_istore Z.1 (lv2 := [(7, .int 9), (6, .int s0), (0, va_rf (some this)), (3, .int p3), (4, .double l4)]) dX1_join_18 (zL Z (by decide)) rfl ?_
  refine J_lv [2, 3, 4, 1, 0] rfl ?_
  exact pX1_join_l20_ok Z hK t0  FUEL _ _ _ hf
def pX1_join (g : MT) (h : CT) (this : Nat) (p1 : Int64) (p3 : Int32) : Option UInt64 := tg g this 1 (lt (fl2d p1) fun x1 => (if 0 ≤ p3 then pX1_join_b14 g h this p1 p3  x1 p3 else pX1_join_b14 g h this p1 p3  x1 (-p3)))
set_option maxRecDepth 10000 in
set_option maxHeartbeats 4000000 in
theorem pX1_join_ok (G : Gx) (dk : Nat) (hK : 0 ≤ dk) {g : MT} {h : CT} {this : Nat} {p1 : Int64} {p3 : Int32} {r0 : UInt64} (hf : pX1_join g h this p1 p3 = some r0) : Ctr G dk yX1_join cX1_join 9 (some .double) [va_rf (some this), .long p1, .int p3] g h (some (.double r0)) g h := by
  refine Ctr.ofZ (lv := [(0, va_rf (some this)), (1, .long p1), (3, .int p3)]) (by decide +kernel) (by simp [cat_i, cat_l, cat_d, cat_rf]) rfl fun X Z => ?_
  unfold pX1_join at hf
  replace hf := tg_i hf
  obtain ⟨t0, hf⟩ := hf
  refine J_lload_n Z.1 1 dX1_join_0 rfl rfl ?_
  refine J_l2d Z.1 dX1_join_1 ?_
  refine J_td (fun x1 ex1 => ?_)
  replace hf := lt_i hf x1 ex1
  refine J_dstore Z.1 (lv2 := [(4, .double x1), (0, va_rf (some this)), (1, .long p1), (3, .int p3)]) dX1_join_2 (zL Z (by decide)) rfl ?_
  refine J_iload_n Z.1 3 dX1_join_4 rfl rfl ?_
  refine J_if_ge Z.1 13 dX1_join_5 (by decide) (fun c2 => ?_) (fun c2 => ?_)
  · rw [if_pos c2] at hf
    refine J_iload_n Z.1 3 dX1_join_13 rfl rfl ?_
    refine J_lv [1, 3, 0] rfl ?_
    exact pX1_join_b14_ok Z hK t0  _ _ hf
  · rw [if_neg c2] at hf
    refine J_iload_n Z.1 3 dX1_join_8 rfl rfl ?_
    refine J_ineg Z.1 dX1_join_9 ?_
    refine J_goto Z.1 14 dX1_join_10 (by decide) ?_
    refine J_lv [1, 3, 0] rfl ?_
    exact pX1_join_b14_ok Z hK t0  _ _ hf
theorem dX1_remainder_0 : decode cX1_remainder 0 = .ok (.aload_n 1, 1) := by decide +kernel
theorem dX1_remainder_1 : decode cX1_remainder 1 = .ok (.getfield 49, 3) := by decide +kernel
theorem dX1_remainder_4 : decode cX1_remainder 4 = .ok (.ifCond .ne 29, 3) := by decide +kernel
theorem dX1_remainder_7 : decode cX1_remainder 7 = .ok (.aload_n 2, 1) := by decide +kernel
theorem dX1_remainder_8 : decode cX1_remainder 8 = .ok (.getfield 49, 3) := by decide +kernel
theorem dX1_remainder_11 : decode cX1_remainder 11 = .ok (.ifCond .ne 22, 3) := by decide +kernel
theorem dX1_remainder_14 : decode cX1_remainder 14 = .ok (.aload_n 1, 1) := by decide +kernel
theorem dX1_remainder_15 : decode cX1_remainder 15 = .ok (.getfield 29, 3) := by decide +kernel
theorem dX1_remainder_18 : decode cX1_remainder 18 = .ok (.invokestatic 53, 3) := by decide +kernel
theorem dX1_remainder_21 : decode cX1_remainder 21 = .ok (.ifCond .ne 12, 3) := by decide +kernel
theorem dX1_remainder_24 : decode cX1_remainder 24 = .ok (.aload_n 2, 1) := by decide +kernel
theorem dX1_remainder_25 : decode cX1_remainder 25 = .ok (.getfield 29, 3) := by decide +kernel
theorem dX1_remainder_28 : decode cX1_remainder 28 = .ok (.dconst 0, 1) := by decide +kernel
theorem dX1_remainder_29 : decode cX1_remainder 29 = .ok (.dcmp .l, 1) := by decide +kernel
theorem dX1_remainder_30 : decode cX1_remainder 30 = .ok (.ifCond .ne 8, 3) := by decide +kernel
theorem dX1_remainder_33 : decode cX1_remainder 33 = .ok (.aload_n 1, 1) := by decide +kernel
theorem dX1_remainder_34 : decode cX1_remainder 34 = .ok (.invokevirtual 57, 3) := by decide +kernel
theorem dX1_remainder_37 : decode cX1_remainder 37 = .ok (.return_, 1) := by decide +kernel
theorem dX1_remainder_38 : decode cX1_remainder 38 = .ok (.aload_n 1, 1) := by decide +kernel
theorem dX1_remainder_39 : decode cX1_remainder 39 = .ok (.getfield 29, 3) := by decide +kernel
theorem dX1_remainder_42 : decode cX1_remainder 42 = .ok (.dconst 0, 1) := by decide +kernel
theorem dX1_remainder_43 : decode cX1_remainder 43 = .ok (.dcmp .g, 1) := by decide +kernel
theorem dX1_remainder_44 : decode cX1_remainder 44 = .ok (.ifCond .ge 11, 3) := by decide +kernel
theorem dX1_remainder_47 : decode cX1_remainder 47 = .ok (.aload_n 1, 1) := by decide +kernel
theorem dX1_remainder_48 : decode cX1_remainder 48 = .ok (.getfield 29, 3) := by decide +kernel
theorem dX1_remainder_51 : decode cX1_remainder 51 = .ok (.dneg, 1) := by decide +kernel
theorem dX1_remainder_52 : decode cX1_remainder 52 = .ok (.goto 7, 3) := by decide +kernel
theorem dX1_remainder_55 : decode cX1_remainder 55 = .ok (.aload_n 1, 1) := by decide +kernel
theorem dX1_remainder_56 : decode cX1_remainder 56 = .ok (.getfield 29, 3) := by decide +kernel
theorem dX1_remainder_59 : decode cX1_remainder 59 = .ok (.dstore_n 3, 1) := by decide +kernel
theorem dX1_remainder_60 : decode cX1_remainder 60 = .ok (.aload_n 2, 1) := by decide +kernel
theorem dX1_remainder_61 : decode cX1_remainder 61 = .ok (.getfield 29, 3) := by decide +kernel
theorem dX1_remainder_64 : decode cX1_remainder 64 = .ok (.dconst 0, 1) := by decide +kernel
theorem dX1_remainder_65 : decode cX1_remainder 65 = .ok (.dcmp .g, 1) := by decide +kernel
theorem dX1_remainder_66 : decode cX1_remainder 66 = .ok (.ifCond .ge 11, 3) := by decide +kernel
theorem dX1_remainder_69 : decode cX1_remainder 69 = .ok (.aload_n 2, 1) := by decide +kernel
theorem dX1_remainder_70 : decode cX1_remainder 70 = .ok (.getfield 29, 3) := by decide +kernel
theorem dX1_remainder_73 : decode cX1_remainder 73 = .ok (.dneg, 1) := by decide +kernel
theorem dX1_remainder_74 : decode cX1_remainder 74 = .ok (.goto 7, 3) := by decide +kernel
theorem dX1_remainder_77 : decode cX1_remainder 77 = .ok (.aload_n 2, 1) := by decide +kernel
theorem dX1_remainder_78 : decode cX1_remainder 78 = .ok (.getfield 29, 3) := by decide +kernel
theorem dX1_remainder_81 : decode cX1_remainder 81 = .ok (.dstore 5, 2) := by decide +kernel
theorem dX1_remainder_83 : decode cX1_remainder 83 = .ok (.dload_n 3, 1) := by decide +kernel
theorem dX1_remainder_84 : decode cX1_remainder 84 = .ok (.dload 5, 2) := by decide +kernel
theorem dX1_remainder_86 : decode cX1_remainder 86 = .ok (.dcmp .g, 1) := by decide +kernel
theorem dX1_remainder_87 : decode cX1_remainder 87 = .ok (.ifCond .lt 9, 3) := by decide +kernel
theorem dX1_remainder_90 : decode cX1_remainder 90 = .ok (.dload_n 3, 1) := by decide +kernel
theorem dX1_remainder_91 : decode cX1_remainder 91 = .ok (.dconst 0, 1) := by decide +kernel
theorem dX1_remainder_92 : decode cX1_remainder 92 = .ok (.dcmp .l, 1) := by decide +kernel
theorem dX1_remainder_93 : decode cX1_remainder 93 = .ok (.ifCond .ne 4, 3) := by decide +kernel
theorem dX1_remainder_96 : decode cX1_remainder 96 = .ok (.return_, 1) := by decide +kernel
theorem dX1_remainder_97 : decode cX1_remainder 97 = .ok (.aload_n 0, 1) := by decide +kernel
theorem dX1_remainder_98 : decode cX1_remainder 98 = .ok (.dload 5, 2) := by decide +kernel
theorem dX1_remainder_100 : decode cX1_remainder 100 = .ok (.invokevirtual 33, 3) := by decide +kernel
theorem dX1_remainder_103 : decode cX1_remainder 103 = .ok (.aload_n 0, 1) := by decide +kernel
theorem dX1_remainder_104 : decode cX1_remainder 104 = .ok (.getfield 37, 3) := by decide +kernel
theorem dX1_remainder_107 : decode cX1_remainder 107 = .ok (.lstore 7, 2) := by decide +kernel
theorem dX1_remainder_109 : decode cX1_remainder 109 = .ok (.aload_n 0, 1) := by decide +kernel
theorem dX1_remainder_110 : decode cX1_remainder 110 = .ok (.getfield 42, 3) := by decide +kernel
theorem dX1_remainder_113 : decode cX1_remainder 113 = .ok (.istore 9, 2) := by decide +kernel
theorem dX1_remainder_115 : decode cX1_remainder 115 = .ok (.aload_n 0, 1) := by decide +kernel
theorem dX1_remainder_116 : decode cX1_remainder 116 = .ok (.dload_n 3, 1) := by decide +kernel
theorem dX1_remainder_117 : decode cX1_remainder 117 = .ok (.invokevirtual 33, 3) := by decide +kernel
theorem dX1_remainder_120 : decode cX1_remainder 120 = .ok (.lload 7, 2) := by decide +kernel
theorem dX1_remainder_122 : decode cX1_remainder 122 = .ok (.lconst 0, 1) := by decide +kernel
theorem dX1_remainder_123 : decode cX1_remainder 123 = .ok (.lcmp, 1) := by decide +kernel
theorem dX1_remainder_124 : decode cX1_remainder 124 = .ok (.ifCond .gt 4, 3) := by decide +kernel
theorem dX1_remainder_127 : decode cX1_remainder 127 = .ok (.return_, 1) := by decide +kernel
theorem dX1_remainder_128 : decode cX1_remainder 128 = .ok (.aload_n 0, 1) := by decide +kernel
theorem dX1_remainder_129 : decode cX1_remainder 129 = .ok (.getfield 37, 3) := by decide +kernel
theorem dX1_remainder_132 : decode cX1_remainder 132 = .ok (.lload 7, 2) := by decide +kernel
theorem dX1_remainder_134 : decode cX1_remainder 134 = .ok (.lrem, 1) := by decide +kernel
theorem dX1_remainder_135 : decode cX1_remainder 135 = .ok (.lstore 10, 2) := by decide +kernel
theorem dX1_remainder_137 : decode cX1_remainder 137 = .ok (.aload_n 0, 1) := by decide +kernel
theorem dX1_remainder_138 : decode cX1_remainder 138 = .ok (.getfield 42, 3) := by decide +kernel
theorem dX1_remainder_141 : decode cX1_remainder 141 = .ok (.iload 9, 2) := by decide +kernel
theorem dX1_remainder_143 : decode cX1_remainder 143 = .ok (.isub, 1) := by decide +kernel
theorem dX1_remainder_144 : decode cX1_remainder 144 = .ok (.istore 12, 2) := by decide +kernel
theorem dX1_remainder_146 : decode cX1_remainder 146 = .ok (.iload 12, 2) := by decide +kernel
theorem dX1_remainder_148 : decode cX1_remainder 148 = .ok (.ifCond .le 24, 3) := by decide +kernel
theorem dX1_remainder_151 : decode cX1_remainder 151 = .ok (.lload 10, 2) := by decide +kernel
theorem dX1_remainder_153 : decode cX1_remainder 153 = .ok (.iload 12, 2) := by decide +kernel
theorem dX1_remainder_155 : decode cX1_remainder 155 = .ok (.bipush 10, 2) := by decide +kernel
theorem dX1_remainder_157 : decode cX1_remainder 157 = .ok (.invokestatic 60, 3) := by decide +kernel
theorem dX1_remainder_160 : decode cX1_remainder 160 = .ok (.lshl, 1) := by decide +kernel
theorem dX1_remainder_161 : decode cX1_remainder 161 = .ok (.lload 7, 2) := by decide +kernel
theorem dX1_remainder_163 : decode cX1_remainder 163 = .ok (.lrem, 1) := by decide +kernel
theorem dX1_remainder_164 : decode cX1_remainder 164 = .ok (.lstore 10, 2) := by decide +kernel
theorem dX1_remainder_166 : decode cX1_remainder 166 = .ok (.iinc 12 (-10), 3) := by decide +kernel
theorem dX1_remainder_169 : decode cX1_remainder 169 = .ok (.goto (-23), 3) := by decide +kernel
theorem dX1_remainder_172 : decode cX1_remainder 172 = .ok (.aload_n 0, 1) := by decide +kernel
theorem dX1_remainder_173 : decode cX1_remainder 173 = .ok (.lload 10, 2) := by decide +kernel
theorem dX1_remainder_175 : decode cX1_remainder 175 = .ok (.iload 9, 2) := by decide +kernel
theorem dX1_remainder_177 : decode cX1_remainder 177 = .ok (.invokevirtual 66, 3) := by decide +kernel
theorem dX1_remainder_180 : decode cX1_remainder 180 = .ok (.dstore 12, 2) := by decide +kernel
theorem dX1_remainder_182 : decode cX1_remainder 182 = .ok (.aload_n 1, 1) := by decide +kernel
theorem dX1_remainder_183 : decode cX1_remainder 183 = .ok (.aload_n 1, 1) := by decide +kernel
theorem dX1_remainder_184 : decode cX1_remainder 184 = .ok (.getfield 29, 3) := by decide +kernel
theorem dX1_remainder_187 : decode cX1_remainder 187 = .ok (.dconst 0, 1) := by decide +kernel
theorem dX1_remainder_188 : decode cX1_remainder 188 = .ok (.dcmp .g, 1) := by decide +kernel
theorem dX1_remainder_189 : decode cX1_remainder 189 = .ok (.ifCond .ge 9, 3) := by decide +kernel
theorem dX1_remainder_192 : decode cX1_remainder 192 = .ok (.dload 12, 2) := by decide +kernel
theorem dX1_remainder_194 : decode cX1_remainder 194 = .ok (.dneg, 1) := by decide +kernel
theorem dX1_remainder_195 : decode cX1_remainder 195 = .ok (.goto 5, 3) := by decide +kernel
theorem dX1_remainder_198 : decode cX1_remainder 198 = .ok (.dload 12, 2) := by decide +kernel
theorem dX1_remainder_200 : decode cX1_remainder 200 = .ok (.putfield 29, 3) := by decide +kernel
theorem dX1_remainder_203 : decode cX1_remainder 203 = .ok (.return_, 1) := by decide +kernel
def pX1_remainder_b33 (g : MT) (this : Nat) (p1 : Nat) (p2 : Nat) (h : CT) : Option CT := tg g p1 4 (bd (pX4_setOdd g h p1) fun h2 => (some h2))
set_option maxRecDepth 10000 in
set_option maxHeartbeats 4000000 in
theorem pX1_remainder_b33_ok {X : Cx} {G : Gx} {dk : Nat} {g : MT} {h0 : CT} {this : Nat} {p1 : Nat} {p2 : Nat} (Z : Zx X G cX1_remainder RX1 14 dk none none g h0) (hK : 1 ≤ dk) (t0 : gT g this = 1) (h : CT) (hf : pX1_remainder_b33 g this p1 p2 h = some h0) : J X g h 33 [(1, va_rf (some p1))] [] := by
  unfold pX1_remainder_b33 at hf
  refine J_aload_n Z.1 0 dX1_remainder_33 rfl rfl ?_
  replace hf := tg_i hf
  obtain ⟨t1, hf⟩ := hf
  replace hf := bd_i hf
  obtain ⟨h2, q3, hf⟩ := hf
  refine J_callV (ci := 3) (as := []) (rest := []) (sy := []) Z.1 dX1_remainder_34 cw_X1_57 (pX4_setOdd_ok G (dk - 1) (by omega) q3) rfl rfl t1 (zG Z) rfl (by decide) (zF Z (by omega)) (zO Z (by omega) (by decide)) (zM _) Z.2.1 Z.2.1 rfl rfl ?_
  cases hf
  exact J_vret Z.1 Z.2.2.2.2.2 dX1_remainder_37
def pX1_remainder_b200 (g : MT) (this : Nat) (p1 : Nat) (p2 : Nat) (s0 : Nat) (s1 : UInt64) (h : CT) : Option CT := tg g s0 4 (lt (sD h s0 0 s1) fun h2 => (some h2))
set_option maxRecDepth 10000 in
set_option maxHeartbeats 4000000 in
theorem pX1_remainder_b200_ok {X : Cx} {G : Gx} {dk : Nat} {g : MT} {h0 : CT} {this : Nat} {p1 : Nat} {p2 : Nat} (Z : Zx X G cX1_remainder RX1 14 dk none none g h0) (hK : 1 ≤ dk) (t0 : gT g this = 1) (s0 : Nat) (s1 : UInt64) (h : CT) (hf : pX1_remainder_b200 g this p1 p2 s0 s1 h = some h0) : J X g h 200 [] [.double s1, va_rf (some s0)] := by
  unfold pX1_remainder_b200 at hf
  replace hf := tg_i hf
  obtain ⟨t1, hf⟩ := hf
  refine J_putD Z.1 dX1_remainder_200 fl_X1_29 (fun q => by cases q) t1 rfl ?_
  refine J_th (fun h2 eh2 => ?_)
  replace hf := lt_i hf h2 eh2
  cases hf
  exact J_vret Z.1 Z.2.2.2.2.2 dX1_remainder_203
def pX1_remainder_b146 (g : MT) (this : Nat) (p1 : Nat) (p2 : Nat) (k146 : Int64 → Int32 → Int64 → Int32 → CT → Option CT) (l7 : Int64) (l9 : Int32) (l10 : Int64) (l12 : Int32) (h : CT) : Option CT := if l12 ≤ 0 then bd (pX1_join g h this l10 l9) fun x2 => (tg g p1 4 (if 0 ≤ (Op.cmpValue (FP.dcmp (hD h p1 0) 0) .g) then pX1_remainder_b200 g this p1 p2  p1 x2 h else pX1_remainder_b200 g this p1 p2  p1 (fneg x2) h)) else dvL l7 (lt ((l10 <<< (Int32.toInt64 (pJ9_min_7cf53 l12 10) &&& 63)) - (l10 <<< (Int32.toInt64 (pJ9_min_7cf53 l12 10) &&& 63)) / l7 * l7) fun x7 => (lt (l12 + (-10)) fun x8 => (k146 l7 l9 x7 x8 h)))
set_option maxRecDepth 10000 in
set_option maxHeartbeats 4000000 in
theorem pX1_remainder_b146_ok {X : Cx} {G : Gx} {dk : Nat} {g : MT} {h0 : CT} {this : Nat} {p1 : Nat} {p2 : Nat} {k146 : Int64 → Int32 → Int64 → Int32 → CT → Option CT} (Z : Zx X G cX1_remainder RX1 14 dk none none g h0) (hK : 1 ≤ dk) (t0 : gT g this = 1) (hk146 : ∀ (l7 : Int64) (l9 : Int32) (l10 : Int64) (l12 : Int32) (h : CT), k146 l7 l9 l10 l12 h = some h0 → J X g h 146 [(0, va_rf (some this)), (1, va_rf (some p1)), (7, .long l7), (9, .int l9), (10, .long l10), (12, .int l12)] []) (l7 : Int64) (l9 : Int32) (l10 : Int64) (l12 : Int32) (h : CT) (hf : pX1_remainder_b146 g this p1 p2 k146 l7 l9 l10 l12 h = some h0) : J X g h 146 [(0, va_rf (some this)), (1, va_rf (some p1)), (7, .long l7), (9, .int l9), (10, .long l10), (12, .int l12)] [] := by
  unfold pX1_remainder_b146 at hf
  refine J_iload Z.1 5 dX1_remainder_146 rfl ?_
  refine J_if_le Z.1 172 dX1_remainder_148 (by decide) (fun c1 => ?_) (fun c1 => ?_)
  · rw [if_pos c1] at hf
    refine J_aload_n Z.1 0 dX1_remainder_172 rfl rfl ?_
    refine J_lload Z.1 4 dX1_remainder_173 rfl ?_
    refine J_iload Z.1 3 dX1_remainder_175 rfl ?_
    replace hf := bd_i hf
    obtain ⟨x2, q3, hf⟩ := hf
    refine J_callV (ci := 0) (as := [.long l10, .int l9]) (rest := []) (sy := [.double x2]) Z.1 dX1_remainder_177 cw_X1_66 (pX1_join_ok G (dk - 1) (by omega) q3) rfl rfl t0 (zG Z) rfl (by decide) (zF Z (by omega)) (zO Z (by omega) (by decide)) (zM _) Z.2.1 Z.2.1 rfl rfl ?_
    refine J_dstore Z.1 (lv2 := [(12, .double x2), (0, va_rf (some this)), (1, va_rf (some p1)), (7, .long l7), (9, .int l9), (10, .long l10)]) dX1_remainder_180 (zL Z (by decide)) rfl ?_
    refine J_aload_n Z.1 2 dX1_remainder_182 rfl rfl ?_
    refine J_aload_n Z.1 2 dX1_remainder_183 rfl rfl ?_
    replace hf := tg_i hf
    obtain ⟨t4, hf⟩ := hf
    refine J_get (v := .double (hD h p1 0)) Z.1 dX1_remainder_184 fl_X1_29 t4 rfl ?_
    refine J_dconst0 Z.1 dX1_remainder_187 ?_
    refine J_dcmp Z.1 dX1_remainder_188 ?_
    refine J_if_ge Z.1 198 dX1_remainder_189 (by decide) (fun c5 => ?_) (fun c5 => ?_)
    · rw [if_pos c5] at hf
      refine J_dload Z.1 0 dX1_remainder_198 rfl ?_
      refine J_lv [] rfl ?_
      exact pX1_remainder_b200_ok Z hK t0  _ _ _ hf
    · rw [if_neg c5] at hf
      refine J_dload Z.1 0 dX1_remainder_192 rfl ?_
      refine J_dneg Z.1 dX1_remainder_194 ?_
      refine J_goto Z.1 200 dX1_remainder_195 (by decide) ?_
      refine J_lv [] rfl ?_
      exact pX1_remainder_b200_ok Z hK t0  _ _ _ hf
  · rw [if_neg c1] at hf
    refine J_lload Z.1 4 dX1_remainder_151 rfl ?_
    refine J_iload Z.1 5 dX1_remainder_153 rfl ?_
    refine J_bipush Z.1 (v := 10) (by decide) dX1_remainder_155 ?_
    refine J_callS (as := [.int l12, .int 10]) (rest := [.long l10]) (sy := [.int (pJ9_min_7cf53 l12 10), .long l10]) Z.1 dX1_remainder_157 cw_X1_60 (pJ9_min_7cf53_ok G (dk - 1) (by omega) g h l12 10) (zG Z) rfl (by simp [cat_i, cat_l, cat_d, cat_rf]) (zF Z (by omega)) (zO Z (by omega) (by decide)) (zM _) Z.2.1 Z.2.1 rfl rfl ?_
    refine J_lshl Z.1 dX1_remainder_160 ?_
    refine J_lload Z.1 2 dX1_remainder_161 rfl ?_
    replace hf := dvL_i hf
    obtain ⟨z6, hf⟩ := hf
    refine J_lrem Z.1 z6 dX1_remainder_163 ?_
    refine J_tl (fun x7 ex7 => ?_)
    replace hf := lt_i hf x7 ex7
    refine J_lstore Z.1 (lv2 := [(10, .long x7), (0, va_rf (some this)), (1, va_rf (some p1)), (7, .long l7), (9, .int l9), (12, .int l12)]) dX1_remainder_164 (zL Z (by decide)) rfl ?_
    refine J_iinc Z.1 (v := (-10)) (lv2 := [(12, .int (l12 + (-10))), (10, .long x7), (0, va_rf (some this)), (1, va_rf (some p1)), (7, .long l7), (9, .int l9)]) 5 dX1_remainder_166 rfl (by decide) (zL Z (by decide)) rfl ?_
    obtain ⟨x8, ex8⟩ : ∃ z, z = (l12 + (-10)) := ⟨_, rfl⟩
    replace hf := lt_i hf x8 ex8
    rw [← ex8]
    refine J_goto Z.1 146 dX1_remainder_169 (by decide) ?_
    refine J_lv [2, 3, 4, 5, 1, 0] rfl ?_
    exact hk146 _ _ _ _ _ hf
def pX1_remainder_l146 (g : MT) (this : Nat) (p1 : Nat) (p2 : Nat) : Nat → Int64 → Int32 → Int64 → Int32 → CT → Option CT
  | 0, _, _, _, _, _ => none
  | n + 1, l7, l9, l10, l12, h => pX1_remainder_b146 g this p1 p2 (pX1_remainder_l146 g this p1 p2 n) l7 l9 l10 l12 h
theorem pX1_remainder_l146_ok {X : Cx} {G : Gx} {dk : Nat} {g : MT} {h0 : CT} {this : Nat} {p1 : Nat} {p2 : Nat} (Z : Zx X G cX1_remainder RX1 14 dk none none g h0) (hK : 1 ≤ dk) (t0 : gT g this = 1) : ∀ (n : Nat) (l7 : Int64) (l9 : Int32) (l10 : Int64) (l12 : Int32) (h : CT), pX1_remainder_l146 g this p1 p2 n l7 l9 l10 l12 h = some h0 → J X g h 146 [(0, va_rf (some this)), (1, va_rf (some p1)), (7, .long l7), (9, .int l9), (10, .long l10), (12, .int l12)] [] := by
  intro n
  induction n with
  | zero => intro l7 l9 l10 l12 h hf; cases hf
  | succ n ih => intro l7 l9 l10 l12 h hf; exact pX1_remainder_b146_ok Z hK t0 ih l7 l9 l10 l12 h hf
def pX1_remainder_b81 (g : MT) (this : Nat) (p1 : Nat) (p2 : Nat) (l3 : UInt64) (s0 : UInt64) (h : CT) : Option CT := if (Op.cmpValue (FP.dcmp l3 s0) .g) < 0 then some h else if (Op.cmpValue (FP.dcmp l3 0) .l) = 0 then some h else bd (pX1_split g h this s0) fun h3 => (lt (hL h3 this 3) fun x5 => (lt (hI h3 this 4) fun x6 => (bd (pX1_split g h3 this l3) fun h7 => (if 0 < (lg_cmp x5 0) then dvL x5 (lt ((hL h7 this 3) - (hL h7 this 3) / x5 * x5) fun x11 => (lt ((hI h7 this 4) - x6) fun x12 => (pX1_remainder_l146 g this p1 p2  FUEL x5 x6 x11 x12 h7))) else some h7))))
set_option maxRecDepth 10000 in
set_option maxHeartbeats 4000000 in
theorem pX1_remainder_b81_ok {X : Cx} {G : Gx} {dk : Nat} {g : MT} {h0 : CT} {this : Nat} {p1 : Nat} {p2 : Nat} (Z : Zx X G cX1_remainder RX1 14 dk none none g h0) (hK : 1 ≤ dk) (t0 : gT g this = 1) (l3 : UInt64) (s0 : UInt64) (h : CT) (hf : pX1_remainder_b81 g this p1 p2 l3 s0 h = some h0) : J X g h 81 [(0, va_rf (some this)), (1, va_rf (some p1)), (3, .double l3)] [.double s0] := by
  unfold pX1_remainder_b81 at hf
  refine J_dstore Z.1 (lv2 := [(5, .double s0), (0, va_rf (some this)), (1, va_rf (some p1)), (3, .double l3)]) dX1_remainder_81 (zL Z (by decide)) rfl ?_
  refine J_dload_n Z.1 3 dX1_remainder_83 rfl rfl ?_
  refine J_dload Z.1 0 dX1_remainder_84 rfl ?_
  refine J_dcmp Z.1 dX1_remainder_86 ?_
  refine J_if_lt Z.1 96 dX1_remainder_87 (by decide) (fun c1 => ?_) (fun c1 => ?_)
  · rw [if_pos c1] at hf
    cases hf
    exact J_vret Z.1 Z.2.2.2.2.2 dX1_remainder_96
  · rw [if_neg c1] at hf
    refine J_dload_n Z.1 3 dX1_remainder_90 rfl rfl ?_
    refine J_dconst0 Z.1 dX1_remainder_91 ?_
    refine J_dcmp Z.1 dX1_remainder_92 ?_
    refine J_if_ne Z.1 97 dX1_remainder_93 (by decide) (fun c2 => ?_) (fun c2 => ?_)
    · rw [if_neg c2] at hf
      refine J_aload_n Z.1 1 dX1_remainder_97 rfl rfl ?_
      refine J_dload Z.1 0 dX1_remainder_98 rfl ?_
      replace hf := bd_i hf
      obtain ⟨h3, q4, hf⟩ := hf
      refine J_callV (ci := 0) (as := [.double s0]) (rest := []) (sy := []) Z.1 dX1_remainder_100 cw_X1_33 (pX1_split_ok G (dk - 1) (by omega) q4) rfl rfl t0 (zG Z) rfl (by decide) (zF Z (by omega)) (zO Z (by omega) (by decide)) (zM _) Z.2.1 Z.2.1 rfl rfl ?_
      refine J_aload_n Z.1 1 dX1_remainder_103 rfl rfl ?_
      refine J_get (v := .long (hL h3 this 3)) Z.1 dX1_remainder_104 fl_X1_37 t0 rfl ?_
      refine J_tl (fun x5 ex5 => ?_)
      replace hf := lt_i hf x5 ex5
      refine J_lstore Z.1 (lv2 := [(7, .long x5), (5, .double s0), (0, va_rf (some this)), (1, va_rf (some p1)), (3, .double l3)]) dX1_remainder_107 (zL Z (by decide)) rfl ?_
      refine J_aload_n Z.1 2 dX1_remainder_109 rfl rfl ?_
      refine J_get (v := .int (hI h3 this 4)) Z.1 dX1_remainder_110 fl_X1_42 t0 rfl ?_
      refine J_ti (fun x6 ex6 => ?_)
      replace hf := lt_i hf x6 ex6
      refine J_istore Z.1 (lv2 := [(9, .int x6), (7, .long x5), (5, .double s0), (0, va_rf (some this)), (1, va_rf (some p1)), (3, .double l3)]) dX1_remainder_113 (zL Z (by decide)) rfl ?_
      refine J_aload_n Z.1 3 dX1_remainder_115 rfl rfl ?_
      refine J_dload_n Z.1 5 dX1_remainder_116 rfl rfl ?_
      replace hf := bd_i hf
      obtain ⟨h7, q8, hf⟩ := hf
      refine J_callV (ci := 0) (as := [.double l3]) (rest := []) (sy := []) Z.1 dX1_remainder_117 cw_X1_33 (pX1_split_ok G (dk - 1) (by omega) q8) rfl rfl t0 (zG Z) rfl (by decide) (zF Z (by omega)) (zO Z (by omega) (by decide)) (zM _) Z.2.1 Z.2.1 rfl rfl ?_
      refine J_lload Z.1 1 dX1_remainder_120 rfl ?_
      refine J_lconst Z.1 (v := 0) (by decide) dX1_remainder_122 ?_
      refine J_lcmp Z.1 dX1_remainder_123 ?_
      refine J_if_gt Z.1 128 dX1_remainder_124 (by decide) (fun c9 => ?_) (fun c9 => ?_)
      · rw [if_pos c9] at hf
        refine J_aload_n Z.1 3 dX1_remainder_128 rfl rfl ?_
        refine J_get (v := .long (hL h7 this 3)) Z.1 dX1_remainder_129 fl_X1_37 t0 rfl ?_
        refine J_lload Z.1 1 dX1_remainder_132 rfl ?_
        replace hf := dvL_i hf
        obtain ⟨z10, hf⟩ := hf
        refine J_lrem Z.1 z10 dX1_remainder_134 ?_
        refine J_tl (fun x11 ex11 => ?_)
        replace hf := lt_i hf x11 ex11
        refine J_lstore Z.1 (lv2 := [(10, .long x11), (9, .int x6), (7, .long x5), (5, .double s0), (0, va_rf (some this)), (1, va_rf (some p1)), (3, .double l3)]) dX1_remainder_135 (zL Z (by decide)) rfl ?_
        refine J_aload_n Z.1 4 dX1_remainder_137 rfl rfl ?_
        refine J_get (v := .int (hI h7 this 4)) Z.1 dX1_remainder_138 fl_X1_42 t0 rfl ?_
        refine J_iload Z.1 1 dX1_remainder_141 rfl ?_
        refine J_isub Z.1 dX1_remainder_143 ?_
        refine J_ti (fun x12 ex12 => ?_)
        replace hf := lt_i hf x12 ex12
        refine J_istore Z.1 (lv2 := [(12, .int x12), (10, .long x11), (9, .int x6), (7, .long x5), (5, .double s0), (0, va_rf (some this)), (1, va_rf (some p1)), (3, .double l3)]) dX1_remainder_144 (zL Z (by decide)) rfl ?_
        refine J_lv [5, 6, 3, 2, 1, 0] rfl ?_
        exact pX1_remainder_l146_ok Z hK t0  FUEL _ _ _ _ _ hf
      · rw [if_neg c9] at hf
        cases hf
        exact J_vret Z.1 Z.2.2.2.2.2 dX1_remainder_127
    · rw [if_pos c2] at hf
      cases hf
      exact J_vret Z.1 Z.2.2.2.2.2 dX1_remainder_96
def pX1_remainder_b59 (g : MT) (this : Nat) (p1 : Nat) (p2 : Nat) (s0 : UInt64) (h : CT) : Option CT := tg g p2 4 (if 0 ≤ (Op.cmpValue (FP.dcmp (hD h p2 0) 0) .g) then pX1_remainder_b81 g this p1 p2  s0 (hD h p2 0) h else pX1_remainder_b81 g this p1 p2  s0 (fneg (hD h p2 0)) h)
set_option maxRecDepth 10000 in
set_option maxHeartbeats 4000000 in
theorem pX1_remainder_b59_ok {X : Cx} {G : Gx} {dk : Nat} {g : MT} {h0 : CT} {this : Nat} {p1 : Nat} {p2 : Nat} (Z : Zx X G cX1_remainder RX1 14 dk none none g h0) (hK : 1 ≤ dk) (t0 : gT g this = 1) (s0 : UInt64) (h : CT) (hf : pX1_remainder_b59 g this p1 p2 s0 h = some h0) : J X g h 59 [(0, va_rf (some this)), (1, va_rf (some p1)), (2, va_rf (some p2))] [.double s0] := by
  unfold pX1_remainder_b59 at hf
  refine J_dstore_n Z.1 (lv2 := [(3, .double s0), (0, va_rf (some this)), (1, va_rf (some p1)), (2, va_rf (some p2))]) dX1_remainder_59 rfl (zL Z (by decide)) rfl ?_
  refine J_aload_n Z.1 3 dX1_remainder_60 rfl rfl ?_
  replace hf := tg_i hf
  obtain ⟨t1, hf⟩ := hf
  refine J_get (v := .double (hD h p2 0)) Z.1 dX1_remainder_61 fl_X1_29 t1 rfl ?_
  refine J_dconst0 Z.1 dX1_remainder_64 ?_
  refine J_dcmp Z.1 dX1_remainder_65 ?_
  refine J_if_ge Z.1 77 dX1_remainder_66 (by decide) (fun c2 => ?_) (fun c2 => ?_)
  · rw [if_pos c2] at hf
    refine J_aload_n Z.1 3 dX1_remainder_77 rfl rfl ?_
    refine J_get (v := .double (hD h p2 0)) Z.1 dX1_remainder_78 fl_X1_29 t1 rfl ?_
    refine J_lv [1, 2, 0] rfl ?_
    exact pX1_remainder_b81_ok Z hK t0  _ _ _ hf
  · rw [if_neg c2] at hf
    refine J_aload_n Z.1 3 dX1_remainder_69 rfl rfl ?_
    refine J_get (v := .double (hD h p2 0)) Z.1 dX1_remainder_70 fl_X1_29 t1 rfl ?_
    refine J_dneg Z.1 dX1_remainder_73 ?_
    refine J_goto Z.1 81 dX1_remainder_74 (by decide) ?_
    refine J_lv [1, 2, 0] rfl ?_
    exact pX1_remainder_b81_ok Z hK t0  _ _ _ hf
def pX1_remainder (g : MT) (h : CT) (this : Nat) (p1 : Nat) (p2 : Nat) : Option CT := tg g this 1 (tg g p1 4 (if (hI h p1 1) = 0 then tg g p2 4 (if (hI h p2 1) = 0 then if (pX4_isInfinite (hD h p1 0)) = 0 then if (Op.cmpValue (FP.dcmp (hD h p2 0) 0) .l) = 0 then pX1_remainder_b33 g this p1 p2  h else if 0 ≤ (Op.cmpValue (FP.dcmp (hD h p1 0) 0) .g) then pX1_remainder_b59 g this p1 p2  (hD h p1 0) h else pX1_remainder_b59 g this p1 p2  (fneg (hD h p1 0)) h else pX1_remainder_b33 g this p1 p2  h else pX1_remainder_b33 g this p1 p2  h) else pX1_remainder_b33 g this p1 p2  h))
set_option maxRecDepth 10000 in
set_option maxHeartbeats 4000000 in
theorem pX1_remainder_ok (G : Gx) (dk : Nat) (hK : 1 ≤ dk) {g : MT} {h h0 : CT} {this : Nat} {p1 : Nat} {p2 : Nat} (hf : pX1_remainder g h this p1 p2 = some h0) : Ctr G dk yX1_remainder cX1_remainder 14 none [va_rf (some this), va_rf (some p1), va_rf (some p2)] g h none g h0 := by
  refine Ctr.ofZ (lv := [(0, va_rf (some this)), (1, va_rf (some p1)), (2, va_rf (some p2))]) (by decide +kernel) (by simp [cat_i, cat_l, cat_d, cat_rf]) rfl fun X Z => ?_
  unfold pX1_remainder at hf
  replace hf := tg_i hf
  obtain ⟨t0, hf⟩ := hf
  refine J_aload_n Z.1 1 dX1_remainder_0 rfl rfl ?_
  replace hf := tg_i hf
  obtain ⟨t1, hf⟩ := hf
  refine J_get (v := .int (hI h p1 1)) Z.1 dX1_remainder_1 fl_X1_49 t1 rfl ?_
  refine J_if_ne Z.1 33 dX1_remainder_4 (by decide) (fun c2 => ?_) (fun c2 => ?_)
  · rw [if_neg c2] at hf
    refine J_lv [1] rfl ?_
    exact pX1_remainder_b33_ok Z hK t0  _ hf
  · rw [if_pos c2] at hf
    refine J_aload_n Z.1 2 dX1_remainder_7 rfl rfl ?_
    replace hf := tg_i hf
    obtain ⟨t3, hf⟩ := hf
    refine J_get (v := .int (hI h p2 1)) Z.1 dX1_remainder_8 fl_X1_49 t3 rfl ?_
    refine J_if_ne Z.1 33 dX1_remainder_11 (by decide) (fun c4 => ?_) (fun c4 => ?_)
    · rw [if_neg c4] at hf
      refine J_lv [1] rfl ?_
      exact pX1_remainder_b33_ok Z hK t0  _ hf
    · rw [if_pos c4] at hf
      refine J_aload_n Z.1 1 dX1_remainder_14 rfl rfl ?_
      refine J_get (v := .double (hD h p1 0)) Z.1 dX1_remainder_15 fl_X1_29 t1 rfl ?_
      refine J_callS (as := [.double (hD h p1 0)]) (rest := []) (sy := [.int (pX4_isInfinite (hD h p1 0))]) Z.1 dX1_remainder_18 cw_X1_53 (pX4_isInfinite_ok G (dk - 1) (by omega) g h (hD h p1 0)) (zG Z) rfl (by decide) (zF Z (by omega)) (zO Z (by omega) (by decide)) (zM _) Z.2.1 Z.2.1 rfl rfl ?_
      refine J_if_ne Z.1 33 dX1_remainder_21 (by decide) (fun c5 => ?_) (fun c5 => ?_)
      · rw [if_neg c5] at hf
        refine J_lv [1] rfl ?_
        exact pX1_remainder_b33_ok Z hK t0  _ hf
      · rw [if_pos c5] at hf
        refine J_aload_n Z.1 2 dX1_remainder_24 rfl rfl ?_
        refine J_get (v := .double (hD h p2 0)) Z.1 dX1_remainder_25 fl_X1_29 t3 rfl ?_
        refine J_dconst0 Z.1 dX1_remainder_28 ?_
        refine J_dcmp Z.1 dX1_remainder_29 ?_
        refine J_if_ne Z.1 38 dX1_remainder_30 (by decide) (fun c6 => ?_) (fun c6 => ?_)
        · rw [if_neg c6] at hf
          refine J_aload_n Z.1 1 dX1_remainder_38 rfl rfl ?_
          refine J_get (v := .double (hD h p1 0)) Z.1 dX1_remainder_39 fl_X1_29 t1 rfl ?_
          refine J_dconst0 Z.1 dX1_remainder_42 ?_
          refine J_dcmp Z.1 dX1_remainder_43 ?_
          refine J_if_ge Z.1 55 dX1_remainder_44 (by decide) (fun c7 => ?_) (fun c7 => ?_)
          · rw [if_pos c7] at hf
            refine J_aload_n Z.1 1 dX1_remainder_55 rfl rfl ?_
            refine J_get (v := .double (hD h p1 0)) Z.1 dX1_remainder_56 fl_X1_29 t1 rfl ?_
            exact pX1_remainder_b59_ok Z hK t0  _ _ hf
          · rw [if_neg c7] at hf
            refine J_aload_n Z.1 1 dX1_remainder_47 rfl rfl ?_
            refine J_get (v := .double (hD h p1 0)) Z.1 dX1_remainder_48 fl_X1_29 t1 rfl ?_
            refine J_dneg Z.1 dX1_remainder_51 ?_
            refine J_goto Z.1 59 dX1_remainder_52 (by decide) ?_
            exact pX1_remainder_b59_ok Z hK t0  _ _ hf
        · rw [if_pos c6] at hf
          refine J_lv [1] rfl ?_
          exact pX1_remainder_b33_ok Z hK t0  _ hf
theorem dX2_init_0 : decode cX2_init 0 = .ok (.aload_n 0, 1) := by decide +kernel
theorem dX2_init_1 : decode cX2_init 1 = .ok (.invokespecial 5, 3) := by decide +kernel
theorem dX2_init_4 : decode cX2_init 4 = .ok (.aload_n 0, 1) := by decide +kernel
theorem dX2_init_5 : decode cX2_init 5 = .ok (.aload_n 1, 1) := by decide +kernel
theorem dX2_init_6 : decode cX2_init 6 = .ok (.putfield 11, 3) := by decide +kernel
theorem dX2_init_9 : decode cX2_init 9 = .ok (.return_, 1) := by decide +kernel
def pX2_init (g : MT) (h : CT) (this : Nat) (p1 : Nat) : Option (MT × CT) := gq Prod.fst g (tg g this 2 (lt (sR h this 0 (some p1)) fun h2 => (some (g, h2))))
theorem pX2_init_mono {g g0 : MT} {h h0 : CT} {this : Nat} {p1 : Nat} (hf : pX2_init g h this p1 = some (g0, h0)) : gN g ≤ gN g0 ∧ gU g ≤ gU g0 := by
  unfold pX2_init at hf
  exact (gq_i hf).1
set_option maxRecDepth 10000 in
set_option maxHeartbeats 4000000 in
theorem pX2_init_ok (G : Gx) (dk : Nat) (hK : 1 ≤ dk) {g g0 : MT} {h h0 : CT} {this : Nat} {p1 : Nat} (hf : pX2_init g h this p1 = some (g0, h0)) : Ctr G dk yX2_init cX2_init 2 none [va_rf (some this), va_rf (some p1)] g h none g0 h0 := by
  unfold pX2_init at hf
  replace hf := gq_i hf
  obtain ⟨hm, hf⟩ := hf
  refine Ctr.ofY (lv := [(0, va_rf (some this)), (1, va_rf (some p1))]) (by decide +kernel) (by simp [cat_i, cat_l, cat_d, cat_rf]) rfl hm fun X Z M => ?_
  refine J_aload_n Z.1 0 dX2_init_0 rfl rfl ?_
  refine J_objInit Z.1 dX2_init_1 q_761 q_168 q_169 (yO2 Z (by omega) (by simp [cat_i, cat_l, cat_d, cat_rf])) (yF Z (d := 0) (by omega)) ?_
  refine J_aload_n Z.1 0 dX2_init_4 rfl rfl ?_
  refine J_aload_n Z.1 1 dX2_init_5 rfl rfl ?_
  replace hf := tg_i hf
  obtain ⟨t1, hf⟩ := hf
  refine J_putR Z.1 dX2_init_6 fl_X2_11 (fun _ => ⟨Z.2.2.2.2.2.2.2, _, rfl, rfl⟩) t1 (Or.inl ⟨_, rfl⟩) ?_
  refine J_th (fun h2 eh2 => ?_)
  replace hf := lt_i hf h2 eh2
  cases hf
  exact J_vret Z.1 Z.2.2.2.2.1 dX2_init_9
theorem dX2_usesMask_0 : decode cX2_usesMask 0 = .ok (.aload_n 0, 1) := by decide +kernel
theorem dX2_usesMask_1 : decode cX2_usesMask 1 = .ok (.getfield 15, 3) := by decide +kernel
theorem dX2_usesMask_4 : decode cX2_usesMask 4 = .ok (.ifCond .ne 15, 3) := by decide +kernel
theorem dX2_usesMask_7 : decode cX2_usesMask 7 = .ok (.aload_n 0, 1) := by decide +kernel
theorem dX2_usesMask_8 : decode cX2_usesMask 8 = .ok (.getfield 11, 3) := by decide +kernel
theorem dX2_usesMask_11 : decode cX2_usesMask 11 = .ok (.bipush 48, 2) := by decide +kernel
theorem dX2_usesMask_13 : decode cX2_usesMask 13 = .ok (.invokevirtual 19, 3) := by decide +kernel
theorem dX2_usesMask_16 : decode cX2_usesMask 16 = .ok (.ifCond .eq 7, 3) := by decide +kernel
theorem dX2_usesMask_19 : decode cX2_usesMask 19 = .ok (.iconst 1, 1) := by decide +kernel
theorem dX2_usesMask_20 : decode cX2_usesMask 20 = .ok (.goto 4, 3) := by decide +kernel
theorem dX2_usesMask_23 : decode cX2_usesMask 23 = .ok (.iconst 0, 1) := by decide +kernel
theorem dX2_usesMask_24 : decode cX2_usesMask 24 = .ok (.ireturn, 1) := by decide +kernel
def pX2_usesMask_b19 (E : EC) (g : MT) (h : CT) (this : Nat)  : Option Int32 := some 1
set_option maxRecDepth 10000 in
set_option maxHeartbeats 4000000 in
theorem pX2_usesMask_b19_ok {X : Cx} {G : Gx} {dk : Nat} {g : MT} {r0 : Int32} {h : CT} {this : Nat} (Z : Zx X G cX2_usesMask RX2 1 dk (some .boolean) (some (.int r0)) g h) (hK : 1 ≤ dk) {E : EC} (hE : G.2.2.2 = E) (t0 : gT g this = 2)  (hf : pX2_usesMask_b19 E g h this = some r0) : J X g h 19 [] [] := by
  unfold pX2_usesMask_b19 at hf
  refine J_iconst Z.1 (v := 1) (by decide) dX2_usesMask_19 ?_
  refine J_goto Z.1 24 dX2_usesMask_20 (by decide) ?_
  cases hf
  exact J_zret Z.1 Z.2.2.2.2.2 (z_n (Or.inr rfl)) dX2_usesMask_24
def pX2_usesMask (E : EC) (g : MT) (h : CT) (this : Nat) : Option Int32 := tg g this 2 (if (hI h this 8) = 0 then lt (hR h this 0) fun r2 => (nn r2 fun a2 => (tg E.2.2 a2 60 (bd (pX5_does E g h a2 48) fun x4 => (if x4 = 0 then some 0 else pX2_usesMask_b19 E g h this  )))) else pX2_usesMask_b19 E g h this  )
set_option maxRecDepth 10000 in
set_option maxHeartbeats 4000000 in
theorem pX2_usesMask_ok (G : Gx) (dk : Nat) (hK : 1 ≤ dk) {g : MT} {E : EC} (hE : G.2.2.2 = E) {h : CT} {this : Nat} {r0 : Int32} (hf : pX2_usesMask E g h this = some r0) : Ctr G dk yX2_usesMask cX2_usesMask 1 (some .boolean) [va_rf (some this)] g h (some (.int r0)) g h := by
  refine Ctr.ofZ (lv := [(0, va_rf (some this))]) (by decide +kernel) (by simp [cat_i, cat_l, cat_d, cat_rf]) rfl fun X Z => ?_
  unfold pX2_usesMask at hf
  replace hf := tg_i hf
  obtain ⟨t0, hf⟩ := hf
  refine J_aload_n Z.1 0 dX2_usesMask_0 rfl rfl ?_
  refine J_get (v := .int (hI h this 8)) Z.1 dX2_usesMask_1 fl_X2_15 t0 rfl ?_
  refine J_if_ne Z.1 19 dX2_usesMask_4 (by decide) (fun c1 => ?_) (fun c1 => ?_)
  · rw [if_neg c1] at hf
    refine J_lv [] rfl ?_
    exact pX2_usesMask_b19_ok Z hK hE t0   hf
  · rw [if_pos c1] at hf
    refine J_aload_n Z.1 0 dX2_usesMask_7 rfl rfl ?_
    refine J_get (v := va_rf (hR h this 0)) Z.1 dX2_usesMask_8 fl_X2_11 t0 rfl ?_
    refine J_tr (fun r2 er2 => ?_)
    replace hf := lt_i hf r2 er2
    refine J_bipush Z.1 (v := 48) (by decide) dX2_usesMask_11 ?_
    replace hf := nn_i hf
    obtain ⟨a2, rfl, hf⟩ := hf
    replace hf := tg_i hf
    obtain ⟨t3, hf⟩ := hf
    rw [← zE Z hE] at t3
    replace hf := bd_i hf
    obtain ⟨x4, q5, hf⟩ := hf
    refine J_callK (as := [.int 48]) (rest := []) (sy := [.int x4]) Z.1 dX2_usesMask_13 cw_X2_19 (pX5_does_ok G (dk - 1) (by omega) hE q5) (kO Z.1 t3) (zG Z) rfl (by decide) (zF Z (by omega)) (zO Z (by omega) (by decide)) (zM _) Z.2.1 Z.2.1 rfl rfl ?_
    refine J_if_eq Z.1 23 dX2_usesMask_16 (by decide) (fun c6 => ?_) (fun c6 => ?_)
    · rw [if_pos c6] at hf
      refine J_iconst Z.1 (v := 0) (by decide) dX2_usesMask_23 ?_
      cases hf
      exact J_zret Z.1 Z.2.2.2.2.2 (z_n (Or.inl rfl)) dX2_usesMask_24
    · rw [if_neg c6] at hf
      refine J_lv [] rfl ?_
      exact pX2_usesMask_b19_ok Z hK hE t0   hf
theorem dX2_bit_0 : decode cX2_bit 0 = .ok (.aload_n 0, 1) := by decide +kernel
theorem dX2_bit_1 : decode cX2_bit 1 = .ok (.getfield 11, 3) := by decide +kernel
theorem dX2_bit_4 : decode cX2_bit 4 = .ok (.iload_n 1, 1) := by decide +kernel
theorem dX2_bit_5 : decode cX2_bit 5 = .ok (.invokevirtual 19, 3) := by decide +kernel
theorem dX2_bit_8 : decode cX2_bit 8 = .ok (.ifCond .eq 7, 3) := by decide +kernel
theorem dX2_bit_11 : decode cX2_bit 11 = .ok (.iload_n 2, 1) := by decide +kernel
theorem dX2_bit_12 : decode cX2_bit 12 = .ok (.goto 4, 3) := by decide +kernel
theorem dX2_bit_15 : decode cX2_bit 15 = .ok (.iconst 0, 1) := by decide +kernel
theorem dX2_bit_16 : decode cX2_bit 16 = .ok (.ireturn, 1) := by decide +kernel
def pX2_bit (E : EC) (g : MT) (h : CT) (this : Nat) (p1 : Int32) (p2 : Int32) : Option Int32 := tg g this 2 (lt (hR h this 0) fun r1 => (nn r1 fun a1 => (tg E.2.2 a1 60 (bd (pX5_does E g h a1 p1) fun x3 => (if x3 = 0 then some 0 else some p2)))))
set_option maxRecDepth 10000 in
set_option maxHeartbeats 4000000 in
theorem pX2_bit_ok (G : Gx) (dk : Nat) (hK : 1 ≤ dk) {g : MT} {E : EC} (hE : G.2.2.2 = E) {h : CT} {this : Nat} {p1 : Int32} {p2 : Int32} {r0 : Int32} (hf : pX2_bit E g h this p1 p2 = some r0) : Ctr G dk yX2_bit cX2_bit 3 (some .int) [va_rf (some this), .int p1, .int p2] g h (some (.int r0)) g h := by
  refine Ctr.ofZ (lv := [(0, va_rf (some this)), (1, .int p1), (2, .int p2)]) (by decide +kernel) (by simp [cat_i, cat_l, cat_d, cat_rf]) rfl fun X Z => ?_
  unfold pX2_bit at hf
  replace hf := tg_i hf
  obtain ⟨t0, hf⟩ := hf
  refine J_aload_n Z.1 0 dX2_bit_0 rfl rfl ?_
  refine J_get (v := va_rf (hR h this 0)) Z.1 dX2_bit_1 fl_X2_11 t0 rfl ?_
  refine J_tr (fun r1 er1 => ?_)
  replace hf := lt_i hf r1 er1
  refine J_iload_n Z.1 1 dX2_bit_4 rfl rfl ?_
  replace hf := nn_i hf
  obtain ⟨a1, rfl, hf⟩ := hf
  replace hf := tg_i hf
  obtain ⟨t2, hf⟩ := hf
  rw [← zE Z hE] at t2
  replace hf := bd_i hf
  obtain ⟨x3, q4, hf⟩ := hf
  refine J_callK (as := [.int p1]) (rest := []) (sy := [.int x3]) Z.1 dX2_bit_5 cw_X2_19 (pX5_does_ok G (dk - 1) (by omega) hE q4) (kO Z.1 t2) (zG Z) rfl (by decide) (zF Z (by omega)) (zO Z (by omega) (by decide)) (zM _) Z.2.1 Z.2.1 rfl rfl ?_
  refine J_if_eq Z.1 15 dX2_bit_8 (by decide) (fun c5 => ?_) (fun c5 => ?_)
  · rw [if_pos c5] at hf
    refine J_iconst Z.1 (v := 0) (by decide) dX2_bit_15 ?_
    cases hf
    exact J_iret Z.1 Z.2.2.2.2.2 dX2_bit_16
  · rw [if_neg c5] at hf
    refine J_iload_n Z.1 2 dX2_bit_11 rfl rfl ?_
    refine J_goto Z.1 16 dX2_bit_12 (by decide) ?_
    cases hf
    exact J_iret Z.1 Z.2.2.2.2.2 dX2_bit_16
theorem dX2_uses_0 : decode cX2_uses 0 = .ok (.aload_n 0, 1) := by decide +kernel
theorem dX2_uses_1 : decode cX2_uses 1 = .ok (.getfield 11, 3) := by decide +kernel
theorem dX2_uses_4 : decode cX2_uses 4 = .ok (.getstatic 25, 3) := by decide +kernel
theorem dX2_uses_7 : decode cX2_uses 7 = .ok (.if_acmp .ne 7, 3) := by decide +kernel
theorem dX2_uses_10 : decode cX2_uses 10 = .ok (.iconst 0, 1) := by decide +kernel
theorem dX2_uses_11 : decode cX2_uses 11 = .ok (.goto 6, 3) := by decide +kernel
theorem dX2_uses_14 : decode cX2_uses 14 = .ok (.sipush 4096, 3) := by decide +kernel
theorem dX2_uses_17 : decode cX2_uses 17 = .ok (.aload_n 0, 1) := by decide +kernel
theorem dX2_uses_18 : decode cX2_uses 18 = .ok (.getfield 15, 3) := by decide +kernel
theorem dX2_uses_21 : decode cX2_uses 21 = .ok (.ifCond .eq 16, 3) := by decide +kernel
theorem dX2_uses_24 : decode cX2_uses 24 = .ok (.iconst 1, 1) := by decide +kernel
theorem dX2_uses_25 : decode cX2_uses 25 = .ok (.aload_n 0, 1) := by decide +kernel
theorem dX2_uses_26 : decode cX2_uses 26 = .ok (.getfield 28, 3) := by decide +kernel
theorem dX2_uses_29 : decode cX2_uses 29 = .ok (.ishl, 1) := by decide +kernel
theorem dX2_uses_30 : decode cX2_uses 30 = .ok (.sipush 1024, 3) := by decide +kernel
theorem dX2_uses_33 : decode cX2_uses 33 = .ok (.ior, 1) := by decide +kernel
theorem dX2_uses_34 : decode cX2_uses 34 = .ok (.goto 4, 3) := by decide +kernel
theorem dX2_uses_37 : decode cX2_uses 37 = .ok (.iconst 0, 1) := by decide +kernel
theorem dX2_uses_38 : decode cX2_uses 38 = .ok (.ior, 1) := by decide +kernel
theorem dX2_uses_39 : decode cX2_uses 39 = .ok (.aload_n 0, 1) := by decide +kernel
theorem dX2_uses_40 : decode cX2_uses 40 = .ok (.iconst 1, 1) := by decide +kernel
theorem dX2_uses_41 : decode cX2_uses 41 = .ok (.iconst 1, 1) := by decide +kernel
theorem dX2_uses_42 : decode cX2_uses 42 = .ok (.aload_n 0, 1) := by decide +kernel
theorem dX2_uses_43 : decode cX2_uses 43 = .ok (.getfield 28, 3) := by decide +kernel
theorem dX2_uses_46 : decode cX2_uses 46 = .ok (.ishl, 1) := by decide +kernel
theorem dX2_uses_47 : decode cX2_uses 47 = .ok (.invokevirtual 32, 3) := by decide +kernel
theorem dX2_uses_50 : decode cX2_uses 50 = .ok (.ior, 1) := by decide +kernel
theorem dX2_uses_51 : decode cX2_uses 51 = .ok (.aload_n 0, 1) := by decide +kernel
theorem dX2_uses_52 : decode cX2_uses 52 = .ok (.iconst 4, 1) := by decide +kernel
theorem dX2_uses_53 : decode cX2_uses 53 = .ok (.iconst 1, 1) := by decide +kernel
theorem dX2_uses_54 : decode cX2_uses 54 = .ok (.aload_n 0, 1) := by decide +kernel
theorem dX2_uses_55 : decode cX2_uses 55 = .ok (.getfield 36, 3) := by decide +kernel
theorem dX2_uses_58 : decode cX2_uses 58 = .ok (.ishl, 1) := by decide +kernel
theorem dX2_uses_59 : decode cX2_uses 59 = .ok (.invokevirtual 32, 3) := by decide +kernel
theorem dX2_uses_62 : decode cX2_uses 62 = .ok (.ior, 1) := by decide +kernel
theorem dX2_uses_63 : decode cX2_uses 63 = .ok (.aload_n 0, 1) := by decide +kernel
theorem dX2_uses_64 : decode cX2_uses 64 = .ok (.bipush 8, 2) := by decide +kernel
theorem dX2_uses_66 : decode cX2_uses 66 = .ok (.iconst 1, 1) := by decide +kernel
theorem dX2_uses_67 : decode cX2_uses 67 = .ok (.aload_n 0, 1) := by decide +kernel
theorem dX2_uses_68 : decode cX2_uses 68 = .ok (.getfield 39, 3) := by decide +kernel
theorem dX2_uses_71 : decode cX2_uses 71 = .ok (.ishl, 1) := by decide +kernel
theorem dX2_uses_72 : decode cX2_uses 72 = .ok (.invokevirtual 32, 3) := by decide +kernel
theorem dX2_uses_75 : decode cX2_uses 75 = .ok (.ior, 1) := by decide +kernel
theorem dX2_uses_76 : decode cX2_uses 76 = .ok (.aload_n 0, 1) := by decide +kernel
theorem dX2_uses_77 : decode cX2_uses 77 = .ok (.sipush 256, 3) := by decide +kernel
theorem dX2_uses_80 : decode cX2_uses 80 = .ok (.iconst 1, 1) := by decide +kernel
theorem dX2_uses_81 : decode cX2_uses 81 = .ok (.bipush 6, 2) := by decide +kernel
theorem dX2_uses_83 : decode cX2_uses 83 = .ok (.aload_n 0, 1) := by decide +kernel
theorem dX2_uses_84 : decode cX2_uses 84 = .ok (.getfield 42, 3) := by decide +kernel
theorem dX2_uses_87 : decode cX2_uses 87 = .ok (.iadd, 1) := by decide +kernel
theorem dX2_uses_88 : decode cX2_uses 88 = .ok (.ishl, 1) := by decide +kernel
theorem dX2_uses_89 : decode cX2_uses 89 = .ok (.invokevirtual 32, 3) := by decide +kernel
theorem dX2_uses_92 : decode cX2_uses 92 = .ok (.ior, 1) := by decide +kernel
theorem dX2_uses_93 : decode cX2_uses 93 = .ok (.aload_n 0, 1) := by decide +kernel
theorem dX2_uses_94 : decode cX2_uses 94 = .ok (.bipush 16, 2) := by decide +kernel
theorem dX2_uses_96 : decode cX2_uses 96 = .ok (.sipush 1024, 3) := by decide +kernel
theorem dX2_uses_99 : decode cX2_uses 99 = .ok (.invokevirtual 32, 3) := by decide +kernel
theorem dX2_uses_102 : decode cX2_uses 102 = .ok (.ior, 1) := by decide +kernel
theorem dX2_uses_103 : decode cX2_uses 103 = .ok (.aload_n 0, 1) := by decide +kernel
theorem dX2_uses_104 : decode cX2_uses 104 = .ok (.bipush 64, 2) := by decide +kernel
theorem dX2_uses_106 : decode cX2_uses 106 = .ok (.sipush 2048, 3) := by decide +kernel
theorem dX2_uses_109 : decode cX2_uses 109 = .ok (.invokevirtual 32, 3) := by decide +kernel
theorem dX2_uses_112 : decode cX2_uses 112 = .ok (.ior, 1) := by decide +kernel
theorem dX2_uses_113 : decode cX2_uses 113 = .ok (.ireturn, 1) := by decide +kernel
def pX2_uses_b38 (E : EC) (g : MT) (h : CT) (this : Nat) (s0 : Int32) (s1 : Int32) : Option Int32 := bd (pX2_bit E g h this 1 ((1 : Int32) <<< ((hI h this 1) &&& 31))) fun x1 => (bd (pX2_bit E g h this 4 ((1 : Int32) <<< ((hI h this 2) &&& 31))) fun x3 => (bd (pX2_bit E g h this 8 ((1 : Int32) <<< ((hI h this 3) &&& 31))) fun x5 => (bd (pX2_bit E g h this 256 ((1 : Int32) <<< ((6 + (hI h this 4)) &&& 31))) fun x7 => (bd (pX2_bit E g h this 16 1024) fun x9 => (bd (pX2_bit E g h this 64 2048) fun x11 => (some (((((((s0 ||| s1) ||| x1) ||| x3) ||| x5) ||| x7) ||| x9) ||| x11)))))))
set_option maxRecDepth 10000 in
set_option maxHeartbeats 4000000 in
theorem pX2_uses_b38_ok {X : Cx} {G : Gx} {dk : Nat} {g : MT} {r0 : Int32} {h : CT} {this : Nat} (Z : Zx X G cX2_uses RX2 1 dk (some .int) (some (.int r0)) g h) (hK : 2 ≤ dk) {E : EC} (hE : G.2.2.2 = E) (t0 : gT g this = 2) (s0 : Int32) (s1 : Int32) (hf : pX2_uses_b38 E g h this s0 s1 = some r0) : J X g h 38 [(0, va_rf (some this))] [.int s1, .int s0] := by
  unfold pX2_uses_b38 at hf
  refine J_ior Z.1 dX2_uses_38 ?_
  refine J_aload_n Z.1 0 dX2_uses_39 rfl rfl ?_
  refine J_iconst Z.1 (v := 1) (by decide) dX2_uses_40 ?_
  refine J_iconst Z.1 (v := 1) (by decide) dX2_uses_41 ?_
  refine J_aload_n Z.1 0 dX2_uses_42 rfl rfl ?_
  refine J_get (v := .int (hI h this 1)) Z.1 dX2_uses_43 fl_X2_28 t0 rfl ?_
  refine J_ishl Z.1 dX2_uses_46 ?_
  replace hf := bd_i hf
  obtain ⟨x1, q2, hf⟩ := hf
  refine J_callV (ci := 1) (as := [.int 1, .int ((1 : Int32) <<< ((hI h this 1) &&& 31))]) (rest := [.int (s0 ||| s1)]) (sy := [.int x1, .int (s0 ||| s1)]) Z.1 dX2_uses_47 cw_X2_32 (pX2_bit_ok G (dk - 1) (by omega) hE q2) rfl rfl t0 (zG Z) rfl (by simp [cat_i, cat_l, cat_d, cat_rf]) (zF Z (by omega)) (zO Z (by omega) (by decide)) (zM _) Z.2.1 Z.2.1 rfl rfl ?_
  refine J_ior Z.1 dX2_uses_50 ?_
  refine J_aload_n Z.1 0 dX2_uses_51 rfl rfl ?_
  refine J_iconst Z.1 (v := 4) (by decide) dX2_uses_52 ?_
  refine J_iconst Z.1 (v := 1) (by decide) dX2_uses_53 ?_
  refine J_aload_n Z.1 0 dX2_uses_54 rfl rfl ?_
  refine J_get (v := .int (hI h this 2)) Z.1 dX2_uses_55 fl_X2_36 t0 rfl ?_
  refine J_ishl Z.1 dX2_uses_58 ?_
  replace hf := bd_i hf
  obtain ⟨x3, q4, hf⟩ := hf
  refine J_callV (ci := 1) (as := [.int 4, .int ((1 : Int32) <<< ((hI h this 2) &&& 31))]) (rest := [.int ((s0 ||| s1) ||| x1)]) (sy := [.int x3, .int ((s0 ||| s1) ||| x1)]) Z.1 dX2_uses_59 cw_X2_32 (pX2_bit_ok G (dk - 1) (by omega) hE q4) rfl rfl t0 (zG Z) rfl (by simp [cat_i, cat_l, cat_d, cat_rf]) (zF Z (by omega)) (zO Z (by omega) (by decide)) (zM _) Z.2.1 Z.2.1 rfl rfl ?_
  refine J_ior Z.1 dX2_uses_62 ?_
  refine J_aload_n Z.1 0 dX2_uses_63 rfl rfl ?_
  refine J_bipush Z.1 (v := 8) (by decide) dX2_uses_64 ?_
  refine J_iconst Z.1 (v := 1) (by decide) dX2_uses_66 ?_
  refine J_aload_n Z.1 0 dX2_uses_67 rfl rfl ?_
  refine J_get (v := .int (hI h this 3)) Z.1 dX2_uses_68 fl_X2_39 t0 rfl ?_
  refine J_ishl Z.1 dX2_uses_71 ?_
  replace hf := bd_i hf
  obtain ⟨x5, q6, hf⟩ := hf
  refine J_callV (ci := 1) (as := [.int 8, .int ((1 : Int32) <<< ((hI h this 3) &&& 31))]) (rest := [.int (((s0 ||| s1) ||| x1) ||| x3)]) (sy := [.int x5, .int (((s0 ||| s1) ||| x1) ||| x3)]) Z.1 dX2_uses_72 cw_X2_32 (pX2_bit_ok G (dk - 1) (by omega) hE q6) rfl rfl t0 (zG Z) rfl (by simp [cat_i, cat_l, cat_d, cat_rf]) (zF Z (by omega)) (zO Z (by omega) (by decide)) (zM _) Z.2.1 Z.2.1 rfl rfl ?_
  refine J_ior Z.1 dX2_uses_75 ?_
  refine J_aload_n Z.1 0 dX2_uses_76 rfl rfl ?_
  refine J_sipush Z.1 (v := 256) (by decide) dX2_uses_77 ?_
  refine J_iconst Z.1 (v := 1) (by decide) dX2_uses_80 ?_
  refine J_bipush Z.1 (v := 6) (by decide) dX2_uses_81 ?_
  refine J_aload_n Z.1 0 dX2_uses_83 rfl rfl ?_
  refine J_get (v := .int (hI h this 4)) Z.1 dX2_uses_84 fl_X2_42 t0 rfl ?_
  refine J_iadd Z.1 dX2_uses_87 ?_
  refine J_ishl Z.1 dX2_uses_88 ?_
  replace hf := bd_i hf
  obtain ⟨x7, q8, hf⟩ := hf
  refine J_callV (ci := 1) (as := [.int 256, .int ((1 : Int32) <<< ((6 + (hI h this 4)) &&& 31))]) (rest := [.int ((((s0 ||| s1) ||| x1) ||| x3) ||| x5)]) (sy := [.int x7, .int ((((s0 ||| s1) ||| x1) ||| x3) ||| x5)]) Z.1 dX2_uses_89 cw_X2_32 (pX2_bit_ok G (dk - 1) (by omega) hE q8) rfl rfl t0 (zG Z) rfl (by simp [cat_i, cat_l, cat_d, cat_rf]) (zF Z (by omega)) (zO Z (by omega) (by decide)) (zM _) Z.2.1 Z.2.1 rfl rfl ?_
  refine J_ior Z.1 dX2_uses_92 ?_
  refine J_aload_n Z.1 0 dX2_uses_93 rfl rfl ?_
  refine J_bipush Z.1 (v := 16) (by decide) dX2_uses_94 ?_
  refine J_sipush Z.1 (v := 1024) (by decide) dX2_uses_96 ?_
  replace hf := bd_i hf
  obtain ⟨x9, q10, hf⟩ := hf
  refine J_callV (ci := 1) (as := [.int 16, .int 1024]) (rest := [.int (((((s0 ||| s1) ||| x1) ||| x3) ||| x5) ||| x7)]) (sy := [.int x9, .int (((((s0 ||| s1) ||| x1) ||| x3) ||| x5) ||| x7)]) Z.1 dX2_uses_99 cw_X2_32 (pX2_bit_ok G (dk - 1) (by omega) hE q10) rfl rfl t0 (zG Z) rfl (by simp [cat_i, cat_l, cat_d, cat_rf]) (zF Z (by omega)) (zO Z (by omega) (by decide)) (zM _) Z.2.1 Z.2.1 rfl rfl ?_
  refine J_ior Z.1 dX2_uses_102 ?_
  refine J_aload_n Z.1 0 dX2_uses_103 rfl rfl ?_
  refine J_bipush Z.1 (v := 64) (by decide) dX2_uses_104 ?_
  refine J_sipush Z.1 (v := 2048) (by decide) dX2_uses_106 ?_
  replace hf := bd_i hf
  obtain ⟨x11, q12, hf⟩ := hf
  refine J_callV (ci := 1) (as := [.int 64, .int 2048]) (rest := [.int ((((((s0 ||| s1) ||| x1) ||| x3) ||| x5) ||| x7) ||| x9)]) (sy := [.int x11, .int ((((((s0 ||| s1) ||| x1) ||| x3) ||| x5) ||| x7) ||| x9)]) Z.1 dX2_uses_109 cw_X2_32 (pX2_bit_ok G (dk - 1) (by omega) hE q12) rfl rfl t0 (zG Z) rfl (by simp [cat_i, cat_l, cat_d, cat_rf]) (zF Z (by omega)) (zO Z (by omega) (by decide)) (zM _) Z.2.1 Z.2.1 rfl rfl ?_
  refine J_ior Z.1 dX2_uses_112 ?_
  cases hf
  exact J_iret Z.1 Z.2.2.2.2.2 dX2_uses_113
def pX2_uses_b17 (E : EC) (g : MT) (h : CT) (this : Nat) (s0 : Int32) : Option Int32 := if (hI h this 8) = 0 then pX2_uses_b38 E g h this  s0 0 else pX2_uses_b38 E g h this  s0 (((1 : Int32) <<< ((hI h this 1) &&& 31)) ||| 1024)
set_option maxRecDepth 10000 in
set_option maxHeartbeats 4000000 in
theorem pX2_uses_b17_ok {X : Cx} {G : Gx} {dk : Nat} {g : MT} {r0 : Int32} {h : CT} {this : Nat} (Z : Zx X G cX2_uses RX2 1 dk (some .int) (some (.int r0)) g h) (hK : 2 ≤ dk) {E : EC} (hE : G.2.2.2 = E) (t0 : gT g this = 2) (s0 : Int32) (hf : pX2_uses_b17 E g h this s0 = some r0) : J X g h 17 [(0, va_rf (some this))] [.int s0] := by
  unfold pX2_uses_b17 at hf
  refine J_aload_n Z.1 0 dX2_uses_17 rfl rfl ?_
  refine J_get (v := .int (hI h this 8)) Z.1 dX2_uses_18 fl_X2_15 t0 rfl ?_
  refine J_if_eq Z.1 37 dX2_uses_21 (by decide) (fun c1 => ?_) (fun c1 => ?_)
  · rw [if_pos c1] at hf
    refine J_iconst Z.1 (v := 0) (by decide) dX2_uses_37 ?_
    exact pX2_uses_b38_ok Z hK hE t0  _ _ hf
  · rw [if_neg c1] at hf
    refine J_iconst Z.1 (v := 1) (by decide) dX2_uses_24 ?_
    refine J_aload_n Z.1 0 dX2_uses_25 rfl rfl ?_
    refine J_get (v := .int (hI h this 1)) Z.1 dX2_uses_26 fl_X2_28 t0 rfl ?_
    refine J_ishl Z.1 dX2_uses_29 ?_
    refine J_sipush Z.1 (v := 1024) (by decide) dX2_uses_30 ?_
    refine J_ior Z.1 dX2_uses_33 ?_
    refine J_goto Z.1 38 dX2_uses_34 (by decide) ?_
    exact pX2_uses_b38_ok Z hK hE t0  _ _ hf
def pX2_uses (E : EC) (g : MT) (h : CT) (this : Nat) : Option Int32 := tg g this 2 (lt (hR h this 0) fun r1 => (kR (E.1 5) fun a2 => (if r1 = (some a2) then pX2_uses_b17 E g h this  0 else pX2_uses_b17 E g h this  4096)))
set_option maxRecDepth 10000 in
set_option maxHeartbeats 4000000 in
theorem pX2_uses_ok (G : Gx) (dk : Nat) (hK : 2 ≤ dk) {g : MT} {E : EC} (hE : G.2.2.2 = E) {h : CT} {this : Nat} {r0 : Int32} (hf : pX2_uses E g h this = some r0) : Ctr G dk yX2_uses cX2_uses 1 (some .int) [va_rf (some this)] g h (some (.int r0)) g h := by
  refine Ctr.ofZ (lv := [(0, va_rf (some this))]) (by decide +kernel) (by simp [cat_i, cat_l, cat_d, cat_rf]) rfl fun X Z => ?_
  unfold pX2_uses at hf
  replace hf := tg_i hf
  obtain ⟨t0, hf⟩ := hf
  refine J_aload_n Z.1 0 dX2_uses_0 rfl rfl ?_
  refine J_get (v := va_rf (hR h this 0)) Z.1 dX2_uses_1 fl_X2_11 t0 rfl ?_
  refine J_tr (fun r1 er1 => ?_)
  replace hf := lt_i hf r1 er1
  replace hf := kR_i hf
  obtain ⟨a2, ea2, hf⟩ := hf
  refine J_gets (i := 5) (v := va_rf (some a2)) Z.1 dX2_uses_4 rfl q_1345 (zEv Z hE ea2) rfl ?_
  refine J_acmp_ne Z.1 14 dX2_uses_7 (by decide) (fun c3 => ?_) (fun c3 => ?_)
  · rw [if_neg c3] at hf
    refine J_sipush Z.1 (v := 4096) (by decide) dX2_uses_14 ?_
    exact pX2_uses_b17_ok Z hK hE t0  _ hf
  · rw [if_pos c3] at hf
    refine J_iconst Z.1 (v := 0) (by decide) dX2_uses_10 ?_
    refine J_goto Z.1 17 dX2_uses_11 (by decide) ?_
    exact pX2_uses_b17_ok Z hK hE t0  _ hf
