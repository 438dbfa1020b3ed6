/-! written by wip/whole/gen.py out of the printed bytecode -/
theorem dX3_rowAt_0 : decode cX3_rowAt 0 = .ok (.aload_n 0, 1) := by decide +kernel
theorem dX3_rowAt_1 : decode cX3_rowAt 1 = .ok (.getfield 11, 3) := by decide +kernel
theorem dX3_rowAt_4 : decode cX3_rowAt 4 = .ok (.iload_n 1, 1) := by decide +kernel
theorem dX3_rowAt_5 : decode cX3_rowAt 5 = .ok (.ifCond .lt 13, 3) := by decide +kernel
theorem dX3_rowAt_8 : decode cX3_rowAt 8 = .ok (.iload_n 1, 1) := by decide +kernel
theorem dX3_rowAt_9 : decode cX3_rowAt 9 = .ok (.bipush 6, 2) := by decide +kernel
theorem dX3_rowAt_11 : decode cX3_rowAt 11 = .ok (.if_icmp .ge 7, 3) := by decide +kernel
theorem dX3_rowAt_14 : decode cX3_rowAt 14 = .ok (.iload_n 1, 1) := by decide +kernel
theorem dX3_rowAt_15 : decode cX3_rowAt 15 = .ok (.goto 4, 3) := by decide +kernel
theorem dX3_rowAt_18 : decode cX3_rowAt 18 = .ok (.iconst 0, 1) := by decide +kernel
theorem dX3_rowAt_19 : decode cX3_rowAt 19 = .ok (.aaload, 1) := by decide +kernel
theorem dX3_rowAt_20 : decode cX3_rowAt 20 = .ok (.areturn, 1) := by decide +kernel
def pX3_rowAt (g : MT) (h : CT) (this : Nat) (p1 : Int32) : Option (Option Nat) := tg g this 3 (lt (hR h this 0) fun r1 => (if p1 < 0 then nn r1 fun a1 => (tg g a1 27 (ix (gL g a1) 0 (lt (hR h a1 (Int32.toNatClampNeg 0)) fun r5 => (some r5)))) else if 6 ≤ p1 then nn r1 fun a1 => (tg g a1 27 (ix (gL g a1) 0 (lt (hR h a1 (Int32.toNatClampNeg 0)) fun r9 => (some r9)))) else nn r1 fun a1 => (tg g a1 27 (ix (gL g a1) p1 (lt (hR h a1 (Int32.toNatClampNeg p1)) fun r12 => (some r12))))))
set_option maxRecDepth 10000 in
set_option maxHeartbeats 4000000 in
theorem pX3_rowAt_ok (G : Gx) (dk : Nat) (hK : 0 ≤ dk) {g : MT} {h : CT} {this : Nat} {p1 : Int32} {r0 : Option Nat} (hf : pX3_rowAt g h this p1 = some r0) : Ctr G dk yX3_rowAt cX3_rowAt 2 (some (.object "VectorPipes$Row")) [va_rf (some this), .int p1] g h (some (va_rf r0)) g h := by
  refine Ctr.ofZ (lv := [(0, va_rf (some this)), (1, .int p1)]) (by decide +kernel) (by simp [cat_i, cat_l, cat_d, cat_rf]) rfl fun X Z => ?_
  unfold pX3_rowAt at hf
  replace hf := tg_i hf
  obtain ⟨t0, hf⟩ := hf
  refine J_aload_n Z.1 0 dX3_rowAt_0 rfl rfl ?_
  refine J_get (v := va_rf (hR h this 0)) Z.1 dX3_rowAt_1 fl_X3_11 t0 rfl ?_
  refine J_tr (fun r1 er1 => ?_)
  replace hf := lt_i hf r1 er1
  refine J_iload_n Z.1 1 dX3_rowAt_4 rfl rfl ?_
  refine J_if_lt Z.1 18 dX3_rowAt_5 (by decide) (fun c2 => ?_) (fun c2 => ?_)
  · rw [if_pos c2] at hf
    refine J_iconst Z.1 (v := 0) (by decide) dX3_rowAt_18 ?_
    replace hf := nn_i hf
    obtain ⟨a1, rfl, hf⟩ := hf
    replace hf := tg_i hf
    obtain ⟨t3, hf⟩ := hf
    replace hf := ix_i hf
    obtain ⟨i4, hf⟩ := hf
    refine J_aaload (t := 7) Z.1 dX3_rowAt_19 t3 rfl i4 ?_
    refine J_tr (fun r5 er5 => ?_)
    replace hf := lt_i hf r5 er5
    cases hf
    exact J_aret Z.1 Z.2.2.2.2.2 dX3_rowAt_20
  · rw [if_neg c2] at hf
    refine J_iload_n Z.1 1 dX3_rowAt_8 rfl rfl ?_
    refine J_bipush Z.1 (v := 6) (by decide) dX3_rowAt_9 ?_
    refine J_icmp_ge Z.1 18 dX3_rowAt_11 (by decide) (fun c6 => ?_) (fun c6 => ?_)
    · rw [if_pos c6] at hf
      refine J_iconst Z.1 (v := 0) (by decide) dX3_rowAt_18 ?_
      replace hf := nn_i hf
      obtain ⟨a1, rfl, hf⟩ := hf
      replace hf := tg_i hf
      obtain ⟨t7, hf⟩ := hf
      replace hf := ix_i hf
      obtain ⟨i8, hf⟩ := hf
      refine J_aaload (t := 7) Z.1 dX3_rowAt_19 t7 rfl i8 ?_
      refine J_tr (fun r9 er9 => ?_)
      replace hf := lt_i hf r9 er9
      cases hf
      exact J_aret Z.1 Z.2.2.2.2.2 dX3_rowAt_20
    · rw [if_neg c6] at hf
      refine J_iload_n Z.1 1 dX3_rowAt_14 rfl rfl ?_
      refine J_goto Z.1 19 dX3_rowAt_15 (by decide) ?_
      replace hf := nn_i hf
      obtain ⟨a1, rfl, hf⟩ := hf
      replace hf := tg_i hf
      obtain ⟨t10, hf⟩ := hf
      replace hf := ix_i hf
      obtain ⟨i11, hf⟩ := hf
      refine J_aaload (t := 7) Z.1 dX3_rowAt_19 t10 rfl i11 ?_
      refine J_tr (fun r12 er12 => ?_)
      replace hf := lt_i hf r12 er12
      cases hf
      exact J_aret Z.1 Z.2.2.2.2.2 dX3_rowAt_20
theorem dX3_isMissing_0 : decode cX3_isMissing 0 = .ok (.iload_n 1, 1) := by decide +kernel
theorem dX3_isMissing_1 : decode cX3_isMissing 1 = .ok (.ifCond .lt 18, 3) := by decide +kernel
theorem dX3_isMissing_4 : decode cX3_isMissing 4 = .ok (.iload_n 1, 1) := by decide +kernel
theorem dX3_isMissing_5 : decode cX3_isMissing 5 = .ok (.bipush 6, 2) := by decide +kernel
theorem dX3_isMissing_7 : decode cX3_isMissing 7 = .ok (.if_icmp .ge 12, 3) := by decide +kernel
theorem dX3_isMissing_10 : decode cX3_isMissing 10 = .ok (.aload_n 0, 1) := by decide +kernel
theorem dX3_isMissing_11 : decode cX3_isMissing 11 = .ok (.getfield 20, 3) := by decide +kernel
theorem dX3_isMissing_14 : decode cX3_isMissing 14 = .ok (.iload_n 1, 1) := by decide +kernel
theorem dX3_isMissing_15 : decode cX3_isMissing 15 = .ok (.baload, 1) := by decide +kernel
theorem dX3_isMissing_16 : decode cX3_isMissing 16 = .ok (.ifCond .ne 7, 3) := by decide +kernel
theorem dX3_isMissing_19 : decode cX3_isMissing 19 = .ok (.iconst 1, 1) := by decide +kernel
theorem dX3_isMissing_20 : decode cX3_isMissing 20 = .ok (.goto 4, 3) := by decide +kernel
theorem dX3_isMissing_23 : decode cX3_isMissing 23 = .ok (.iconst 0, 1) := by decide +kernel
theorem dX3_isMissing_24 : decode cX3_isMissing 24 = .ok (.ireturn, 1) := by decide +kernel
def pX3_isMissing_b19 (g : MT) (h : CT) (this : Nat) (p1 : Int32)  : Option Int32 := some 1
set_option maxRecDepth 10000 in
set_option maxHeartbeats 4000000 in
theorem pX3_isMissing_b19_ok {X : Cx} {G : Gx} {dk : Nat} {g : MT} {r0 : Int32} {h : CT} {this : Nat} {p1 : Int32} (Z : Zx X G cX3_isMissing RX3 2 dk (some .boolean) (some (.int r0)) g h) (hK : 0 ≤ dk) (t0 : gT g this = 3)  (hf : pX3_isMissing_b19 g h this p1 = some r0) : J X g h 19 [] [] := by
  unfold pX3_isMissing_b19 at hf
  refine J_iconst Z.1 (v := 1) (by decide) dX3_isMissing_19 ?_
  refine J_goto Z.1 24 dX3_isMissing_20 (by decide) ?_
  cases hf
  exact J_zret Z.1 Z.2.2.2.2.2 (z_n (Or.inr rfl)) dX3_isMissing_24
def pX3_isMissing (g : MT) (h : CT) (this : Nat) (p1 : Int32) : Option Int32 := tg g this 3 (if p1 < 0 then pX3_isMissing_b19 g h this p1   else if 6 ≤ p1 then pX3_isMissing_b19 g h this p1   else lt (hR h this 1) fun r3 => (nn r3 fun a3 => (tg g a3 24 (ix (gL g a3) p1 (if (hI h a3 (Int32.toNatClampNeg p1)) = 0 then pX3_isMissing_b19 g h this p1   else some 0)))))
set_option maxRecDepth 10000 in
set_option maxHeartbeats 4000000 in
theorem pX3_isMissing_ok (G : Gx) (dk : Nat) (hK : 0 ≤ dk) {g : MT} {h : CT} {this : Nat} {p1 : Int32} {r0 : Int32} (hf : pX3_isMissing g h this p1 = some r0) : Ctr G dk yX3_isMissing cX3_isMissing 2 (some .boolean) [va_rf (some this), .int p1] g h (some (.int r0)) g h := by
  refine Ctr.ofZ (lv := [(0, va_rf (some this)), (1, .int p1)]) (by decide +kernel) (by simp [cat_i, cat_l, cat_d, cat_rf]) rfl fun X Z => ?_
  unfold pX3_isMissing at hf
  replace hf := tg_i hf
  obtain ⟨t0, hf⟩ := hf
  refine J_iload_n Z.1 1 dX3_isMissing_0 rfl rfl ?_
  refine J_if_lt Z.1 19 dX3_isMissing_1 (by decide) (fun c1 => ?_) (fun c1 => ?_)
  · rw [if_pos c1] at hf
    refine J_lv [] rfl ?_
    exact pX3_isMissing_b19_ok Z hK t0   hf
  · rw [if_neg c1] at hf
    refine J_iload_n Z.1 1 dX3_isMissing_4 rfl rfl ?_
    refine J_bipush Z.1 (v := 6) (by decide) dX3_isMissing_5 ?_
    refine J_icmp_ge Z.1 19 dX3_isMissing_7 (by decide) (fun c2 => ?_) (fun c2 => ?_)
    · rw [if_pos c2] at hf
      refine J_lv [] rfl ?_
      exact pX3_isMissing_b19_ok Z hK t0   hf
    · rw [if_neg c2] at hf
      refine J_aload_n Z.1 0 dX3_isMissing_10 rfl rfl ?_
      refine J_get (v := va_rf (hR h this 1)) Z.1 dX3_isMissing_11 fl_X3_20 t0 rfl ?_
      refine J_tr (fun r3 er3 => ?_)
      replace hf := lt_i hf r3 er3
      refine J_iload_n Z.1 1 dX3_isMissing_14 rfl rfl ?_
      replace hf := nn_i hf
      obtain ⟨a3, rfl, hf⟩ := hf
      replace hf := tg_i hf
      obtain ⟨t4, hf⟩ := hf
      replace hf := ix_i hf
      obtain ⟨i5, hf⟩ := hf
      refine J_zaload Z.1 dX3_isMissing_15 t4 i5 ?_
      refine J_if_ne Z.1 23 dX3_isMissing_16 (by decide) (fun c6 => ?_) (fun c6 => ?_)
      · rw [if_neg c6] at hf
        refine J_iconst Z.1 (v := 0) (by decide) dX3_isMissing_23 ?_
        cases hf
        exact J_zret Z.1 Z.2.2.2.2.2 (z_n (Or.inl rfl)) dX3_isMissing_24
      · rw [if_pos c6] at hf
        refine J_lv [] rfl ?_
        exact pX3_isMissing_b19_ok Z hK t0   hf
theorem dX3_bit_0 : decode cX3_bit 0 = .ok (.aload_n 0, 1) := by decide +kernel
theorem dX3_bit_1 : decode cX3_bit 1 = .ok (.getfield 52, 3) := by decide +kernel
theorem dX3_bit_4 : decode cX3_bit 4 = .ok (.iload_n 1, 1) := by decide +kernel
theorem dX3_bit_5 : decode cX3_bit 5 = .ok (.ishr, 1) := by decide +kernel
theorem dX3_bit_6 : decode cX3_bit 6 = .ok (.iconst 1, 1) := by decide +kernel
theorem dX3_bit_7 : decode cX3_bit 7 = .ok (.iand, 1) := by decide +kernel
theorem dX3_bit_8 : decode cX3_bit 8 = .ok (.ifCond .eq 7, 3) := by decide +kernel
theorem dX3_bit_11 : decode cX3_bit 11 = .ok (.iconst 1, 1) := by decide +kernel
theorem dX3_bit_12 : decode cX3_bit 12 = .ok (.goto 4, 3) := by decide +kernel
theorem dX3_bit_15 : decode cX3_bit 15 = .ok (.iconst 0, 1) := by decide +kernel
theorem dX3_bit_16 : decode cX3_bit 16 = .ok (.ireturn, 1) := by decide +kernel
def pX3_bit (g : MT) (h : CT) (this : Nat) (p1 : Int32) : Option Int32 := tg g this 3 (if (((hI h this 4) >>> (p1 &&& 31)) &&& 1) = 0 then some 0 else some 1)
set_option maxRecDepth 10000 in
set_option maxHeartbeats 4000000 in
theorem pX3_bit_ok (G : Gx) (dk : Nat) (hK : 0 ≤ dk) {g : MT} {h : CT} {this : Nat} {p1 : Int32} {r0 : Int32} (hf : pX3_bit g h this p1 = some r0) : Ctr G dk yX3_bit cX3_bit 2 (some .boolean) [va_rf (some this), .int p1] g h (some (.int r0)) g h := by
  refine Ctr.ofZ (lv := [(0, va_rf (some this)), (1, .int p1)]) (by decide +kernel) (by simp [cat_i, cat_l, cat_d, cat_rf]) rfl fun X Z => ?_
  unfold pX3_bit at hf
  replace hf := tg_i hf
  obtain ⟨t0, hf⟩ := hf
  refine J_aload_n Z.1 0 dX3_bit_0 rfl rfl ?_
  refine J_get (v := .int (hI h this 4)) Z.1 dX3_bit_1 fl_X3_52 t0 rfl ?_
  refine J_iload_n Z.1 1 dX3_bit_4 rfl rfl ?_
  refine J_ishr Z.1 dX3_bit_5 ?_
  refine J_iconst Z.1 (v := 1) (by decide) dX3_bit_6 ?_
  refine J_iand Z.1 dX3_bit_7 ?_
  refine J_if_eq Z.1 15 dX3_bit_8 (by decide) (fun c1 => ?_) (fun c1 => ?_)
  · rw [if_pos c1] at hf
    refine J_iconst Z.1 (v := 0) (by decide) dX3_bit_15 ?_
    cases hf
    exact J_zret Z.1 Z.2.2.2.2.2 (z_n (Or.inl rfl)) dX3_bit_16
  · rw [if_neg c1] at hf
    refine J_iconst Z.1 (v := 1) (by decide) dX3_bit_11 ?_
    refine J_goto Z.1 16 dX3_bit_12 (by decide) ?_
    cases hf
    exact J_zret Z.1 Z.2.2.2.2.2 (z_n (Or.inr rfl)) dX3_bit_16
theorem dX3_setBit_0 : decode cX3_setBit 0 = .ok (.aload_n 0, 1) := by decide +kernel
theorem dX3_setBit_1 : decode cX3_setBit 1 = .ok (.iload_n 2, 1) := by decide +kernel
theorem dX3_setBit_2 : decode cX3_setBit 2 = .ok (.ifCond .eq 14, 3) := by decide +kernel
theorem dX3_setBit_5 : decode cX3_setBit 5 = .ok (.aload_n 0, 1) := by decide +kernel
theorem dX3_setBit_6 : decode cX3_setBit 6 = .ok (.getfield 52, 3) := by decide +kernel
theorem dX3_setBit_9 : decode cX3_setBit 9 = .ok (.iconst 1, 1) := by decide +kernel
theorem dX3_setBit_10 : decode cX3_setBit 10 = .ok (.iload_n 1, 1) := by decide +kernel
theorem dX3_setBit_11 : decode cX3_setBit 11 = .ok (.ishl, 1) := by decide +kernel
theorem dX3_setBit_12 : decode cX3_setBit 12 = .ok (.ior, 1) := by decide +kernel
theorem dX3_setBit_13 : decode cX3_setBit 13 = .ok (.goto 13, 3) := by decide +kernel
theorem dX3_setBit_16 : decode cX3_setBit 16 = .ok (.aload_n 0, 1) := by decide +kernel
theorem dX3_setBit_17 : decode cX3_setBit 17 = .ok (.getfield 52, 3) := by decide +kernel
theorem dX3_setBit_20 : decode cX3_setBit 20 = .ok (.iconst 1, 1) := by decide +kernel
theorem dX3_setBit_21 : decode cX3_setBit 21 = .ok (.iload_n 1, 1) := by decide +kernel
theorem dX3_setBit_22 : decode cX3_setBit 22 = .ok (.ishl, 1) := by decide +kernel
theorem dX3_setBit_23 : decode cX3_setBit 23 = .ok (.iconst (-1), 1) := by decide +kernel
theorem dX3_setBit_24 : decode cX3_setBit 24 = .ok (.ixor, 1) := by decide +kernel
theorem dX3_setBit_25 : decode cX3_setBit 25 = .ok (.iand, 1) := by decide +kernel
theorem dX3_setBit_26 : decode cX3_setBit 26 = .ok (.putfield 52, 3) := by decide +kernel
theorem dX3_setBit_29 : decode cX3_setBit 29 = .ok (.return_, 1) := by decide +kernel
def pX3_setBit_b26 (g : MT) (this : Nat) (p1 : Int32) (p2 : Int32) (s0 : Nat) (s1 : Int32) (h : CT) : Option CT := tg g s0 3 (lt (sI h s0 4 s1) fun h2 => (some h2))
set_option maxRecDepth 10000 in
set_option maxHeartbeats 4000000 in
theorem pX3_setBit_b26_ok {X : Cx} {G : Gx} {dk : Nat} {g : MT} {h0 : CT} {this : Nat} {p1 : Int32} {p2 : Int32} (Z : Zx X G cX3_setBit RX3 3 dk none none g h0) (hK : 0 ≤ dk) (t0 : gT g this = 3) (s0 : Nat) (s1 : Int32) (h : CT) (hf : pX3_setBit_b26 g this p1 p2 s0 s1 h = some h0) : J X g h 26 [] [.int s1, va_rf (some s0)] := by
  unfold pX3_setBit_b26 at hf
  replace hf := tg_i hf
  obtain ⟨t1, hf⟩ := hf
  refine J_putI Z.1 dX3_setBit_26 fl_X3_52 (fun q => by cases q) t1 rfl rfl (congrArg Value.int (hI_s _ _ _ _)) ?_
  refine J_th (fun h2 eh2 => ?_)
  replace hf := lt_i hf h2 eh2
  cases hf
  exact J_vret Z.1 Z.2.2.2.2.2 dX3_setBit_29
def pX3_setBit (g : MT) (h : CT) (this : Nat) (p1 : Int32) (p2 : Int32) : Option CT := tg g this 3 (if p2 = 0 then pX3_setBit_b26 g this p1 p2  this ((hI h this 4) &&& (((1 : Int32) <<< (p1 &&& 31)) ^^^ (-1))) h else pX3_setBit_b26 g this p1 p2  this ((hI h this 4) ||| ((1 : Int32) <<< (p1 &&& 31))) h)
set_option maxRecDepth 10000 in
set_option maxHeartbeats 4000000 in
theorem pX3_setBit_ok (G : Gx) (dk : Nat) (hK : 0 ≤ dk) {g : MT} {h h0 : CT} {this : Nat} {p1 : Int32} {p2 : Int32} (hf : pX3_setBit g h this p1 p2 = some h0) : Ctr G dk yX3_setBit cX3_setBit 3 none [va_rf (some this), .int p1, .int p2] g h none g h0 := by
  refine Ctr.ofZ (lv := [(0, va_rf (some this)), (1, .int p1), (2, .int p2)]) (by decide +kernel) (by simp [cat_i, cat_l, cat_d, cat_rf]) rfl fun X Z => ?_
  unfold pX3_setBit at hf
  replace hf := tg_i hf
  obtain ⟨t0, hf⟩ := hf
  refine J_aload_n Z.1 0 dX3_setBit_0 rfl rfl ?_
  refine J_iload_n Z.1 2 dX3_setBit_1 rfl rfl ?_
  refine J_if_eq Z.1 16 dX3_setBit_2 (by decide) (fun c1 => ?_) (fun c1 => ?_)
  · rw [if_pos c1] at hf
    refine J_aload_n Z.1 0 dX3_setBit_16 rfl rfl ?_
    refine J_get (v := .int (hI h this 4)) Z.1 dX3_setBit_17 fl_X3_52 t0 rfl ?_
    refine J_iconst Z.1 (v := 1) (by decide) dX3_setBit_20 ?_
    refine J_iload_n Z.1 1 dX3_setBit_21 rfl rfl ?_
    refine J_ishl Z.1 dX3_setBit_22 ?_
    refine J_iconst Z.1 (v := (-1)) (by decide) dX3_setBit_23 ?_
    refine J_ixor Z.1 dX3_setBit_24 ?_
    refine J_iand Z.1 dX3_setBit_25 ?_
    refine J_lv [] rfl ?_
    exact pX3_setBit_b26_ok Z hK t0  _ _ _ hf
  · rw [if_neg c1] at hf
    refine J_aload_n Z.1 0 dX3_setBit_5 rfl rfl ?_
    refine J_get (v := .int (hI h this 4)) Z.1 dX3_setBit_6 fl_X3_52 t0 rfl ?_
    refine J_iconst Z.1 (v := 1) (by decide) dX3_setBit_9 ?_
    refine J_iload_n Z.1 1 dX3_setBit_10 rfl rfl ?_
    refine J_ishl Z.1 dX3_setBit_11 ?_
    refine J_ior Z.1 dX3_setBit_12 ?_
    refine J_goto Z.1 26 dX3_setBit_13 (by decide) ?_
    refine J_lv [] rfl ?_
    exact pX3_setBit_b26_ok Z hK t0  _ _ _ hf
theorem dX3_bankOf_0 : decode cX3_bankOf 0 = .ok (.aload_n 0, 1) := by decide +kernel
theorem dX3_bankOf_1 : decode cX3_bankOf 1 = .ok (.getfield 35, 3) := by decide +kernel
theorem dX3_bankOf_4 : decode cX3_bankOf 4 = .ok (.ifCond .le 12, 3) := by decide +kernel
theorem dX3_bankOf_7 : decode cX3_bankOf 7 = .ok (.iload_n 1, 1) := by decide +kernel
theorem dX3_bankOf_8 : decode cX3_bankOf 8 = .ok (.aload_n 0, 1) := by decide +kernel
theorem dX3_bankOf_9 : decode cX3_bankOf 9 = .ok (.getfield 35, 3) := by decide +kernel
theorem dX3_bankOf_12 : decode cX3_bankOf 12 = .ok (.irem, 1) := by decide +kernel
theorem dX3_bankOf_13 : decode cX3_bankOf 13 = .ok (.goto 4, 3) := by decide +kernel
theorem dX3_bankOf_16 : decode cX3_bankOf 16 = .ok (.iconst 0, 1) := by decide +kernel
theorem dX3_bankOf_17 : decode cX3_bankOf 17 = .ok (.ireturn, 1) := by decide +kernel
def pX3_bankOf (g : MT) (h : CT) (this : Nat) (p1 : Int32) : Option Int32 := tg g this 3 (if (hI h this 6) ≤ 0 then some 0 else dvI (hI h this 6) (some (p1 - p1 / (hI h this 6) * (hI h this 6))))
set_option maxRecDepth 10000 in
set_option maxHeartbeats 4000000 in
theorem pX3_bankOf_ok (G : Gx) (dk : Nat) (hK : 0 ≤ dk) {g : MT} {h : CT} {this : Nat} {p1 : Int32} {r0 : Int32} (hf : pX3_bankOf g h this p1 = some r0) : Ctr G dk yX3_bankOf cX3_bankOf 2 (some .int) [va_rf (some this), .int p1] g h (some (.int r0)) g h := by
  refine Ctr.ofZ (lv := [(0, va_rf (some this)), (1, .int p1)]) (by decide +kernel) (by simp [cat_i, cat_l, cat_d, cat_rf]) rfl fun X Z => ?_
  unfold pX3_bankOf at hf
  replace hf := tg_i hf
  obtain ⟨t0, hf⟩ := hf
  refine J_aload_n Z.1 0 dX3_bankOf_0 rfl rfl ?_
  refine J_get (v := .int (hI h this 6)) Z.1 dX3_bankOf_1 fl_X3_35 t0 rfl ?_
  refine J_if_le Z.1 16 dX3_bankOf_4 (by decide) (fun c1 => ?_) (fun c1 => ?_)
  · rw [if_pos c1] at hf
    refine J_iconst Z.1 (v := 0) (by decide) dX3_bankOf_16 ?_
    cases hf
    exact J_iret Z.1 Z.2.2.2.2.2 dX3_bankOf_17
  · rw [if_neg c1] at hf
    refine J_iload_n Z.1 1 dX3_bankOf_7 rfl rfl ?_
    refine J_aload_n Z.1 0 dX3_bankOf_8 rfl rfl ?_
    refine J_get (v := .int (hI h this 6)) Z.1 dX3_bankOf_9 fl_X3_35 t0 rfl ?_
    replace hf := dvI_i hf
    obtain ⟨z2, hf⟩ := hf
    refine J_irem Z.1 z2 dX3_bankOf_12 ?_
    refine J_goto Z.1 17 dX3_bankOf_13 (by decide) ?_
    cases hf
    exact J_iret Z.1 Z.2.2.2.2.2 dX3_bankOf_17
theorem dX3_lowBits_0 : decode cX3_lowBits 0 = .ok (.iconst 1, 1) := by decide +kernel
theorem dX3_lowBits_1 : decode cX3_lowBits 1 = .ok (.aload_n 0, 1) := by decide +kernel
theorem dX3_lowBits_2 : decode cX3_lowBits 2 = .ok (.getfield 31, 3) := by decide +kernel
theorem dX3_lowBits_5 : decode cX3_lowBits 5 = .ok (.ishl, 1) := by decide +kernel
theorem dX3_lowBits_6 : decode cX3_lowBits 6 = .ok (.iconst 1, 1) := by decide +kernel
theorem dX3_lowBits_7 : decode cX3_lowBits 7 = .ok (.isub, 1) := by decide +kernel
theorem dX3_lowBits_8 : decode cX3_lowBits 8 = .ok (.ireturn, 1) := by decide +kernel
def pX3_lowBits (g : MT) (h : CT) (this : Nat) : Option Int32 := tg g this 3 (some (((1 : Int32) <<< ((hI h this 5) &&& 31)) - 1))
set_option maxRecDepth 10000 in
set_option maxHeartbeats 4000000 in
theorem pX3_lowBits_ok (G : Gx) (dk : Nat) (hK : 0 ≤ dk) {g : MT} {h : CT} {this : Nat} {r0 : Int32} (hf : pX3_lowBits g h this = some r0) : Ctr G dk yX3_lowBits cX3_lowBits 1 (some .int) [va_rf (some this)] g h (some (.int r0)) g h := by
  refine Ctr.ofZ (lv := [(0, va_rf (some this))]) (by decide +kernel) (by simp [cat_i, cat_l, cat_d, cat_rf]) rfl fun X Z => ?_
  unfold pX3_lowBits at hf
  replace hf := tg_i hf
  obtain ⟨t0, hf⟩ := hf
  refine J_iconst Z.1 (v := 1) (by decide) dX3_lowBits_0 ?_
  refine J_aload_n Z.1 0 dX3_lowBits_1 rfl rfl ?_
  refine J_get (v := .int (hI h this 5)) Z.1 dX3_lowBits_2 fl_X3_31 t0 rfl ?_
  refine J_ishl Z.1 dX3_lowBits_5 ?_
  refine J_iconst Z.1 (v := 1) (by decide) dX3_lowBits_6 ?_
  refine J_isub Z.1 dX3_lowBits_7 ?_
  cases hf
  exact J_iret Z.1 Z.2.2.2.2.2 dX3_lowBits_8
theorem dX6_init_0 : decode cX6_init 0 = .ok (.aload_n 0, 1) := by decide +kernel
theorem dX6_init_1 : decode cX6_init 1 = .ok (.invokespecial 3, 3) := by decide +kernel
theorem dX6_init_4 : decode cX6_init 4 = .ok (.aload_n 0, 1) := by decide +kernel
theorem dX6_init_5 : decode cX6_init 5 = .ok (.iconst (-1), 1) := by decide +kernel
theorem dX6_init_6 : decode cX6_init 6 = .ok (.putfield 9, 3) := by decide +kernel
theorem dX6_init_9 : decode cX6_init 9 = .ok (.aload_n 0, 1) := by decide +kernel
theorem dX6_init_10 : decode cX6_init 10 = .ok (.iconst (-1), 1) := by decide +kernel
theorem dX6_init_11 : decode cX6_init 11 = .ok (.putfield 15, 3) := by decide +kernel
theorem dX6_init_14 : decode cX6_init 14 = .ok (.aload_n 0, 1) := by decide +kernel
theorem dX6_init_15 : decode cX6_init 15 = .ok (.iconst 0, 1) := by decide +kernel
theorem dX6_init_16 : decode cX6_init 16 = .ok (.newarray .byte, 2) := by decide +kernel
theorem dX6_init_18 : decode cX6_init 18 = .ok (.putfield 18, 3) := by decide +kernel
theorem dX6_init_21 : decode cX6_init 21 = .ok (.aload_n 0, 1) := by decide +kernel
theorem dX6_init_22 : decode cX6_init 22 = .ok (.ldc 22, 2) := by decide +kernel
theorem dX6_init_24 : decode cX6_init 24 = .ok (.putfield 24, 3) := by decide +kernel
theorem dX6_init_27 : decode cX6_init 27 = .ok (.return_, 1) := by decide +kernel
def pX6_init (E : EC) (g : MT) (h : CT) (this : Nat) : Option (MT × CT) := gq Prod.fst g (tg g this 5 (lt (sI h this 0 (-1)) fun h2 => (lt (sI h2 this 1 (-1)) fun h3 => (gq Prod.fst (gA g 23 0) (lt (gA g 23 0) fun g4 => (lt (hZ h3 (gN g)) fun h5 => (lt (gN g) fun a6 => (tg g4 this 5 (lt (sR h5 this 2 (some a6)) fun h10 => (kR (E.1 50) fun a11 => (lt (sR h10 this 9 (some a11)) fun h12 => (some (g4, h12)))))))))))))
theorem pX6_init_mono {E : EC} {g g0 : MT} {h h0 : CT} {this : Nat} (hf : pX6_init E g h this = some (g0, h0)) : gN g ≤ gN g0 ∧ gU g ≤ gU g0 := by
  unfold pX6_init at hf
  exact (gq_i hf).1
set_option maxRecDepth 10000 in
set_option maxHeartbeats 4000000 in
theorem pX6_init_ok (G : Gx) (dk : Nat) (hK : 1 ≤ dk) {E : EC} (hE : G.2.2.2 = E) {g g0 : MT} {h h0 : CT} {this : Nat} (hf : pX6_init E g h this = some (g0, h0)) : Ctr G dk yX6_init cX6_init 1 none [va_rf (some this)] g h none g0 h0 := by
  unfold pX6_init at hf
  replace hf := gq_i hf
  obtain ⟨hm, hf⟩ := hf
  refine Ctr.ofY (lv := [(0, va_rf (some this))]) (by decide +kernel) (by simp [cat_i, cat_l, cat_d, cat_rf]) rfl hm fun X Z M => ?_
  refine J_aload_n Z.1 0 dX6_init_0 rfl rfl ?_
  refine J_objInit Z.1 dX6_init_1 q_200 q_168 q_169 (yO2 Z (by omega) (by simp [cat_i, cat_l, cat_d, cat_rf])) (yF Z (d := 0) (by omega)) ?_
  refine J_aload_n Z.1 0 dX6_init_4 rfl rfl ?_
  refine J_iconst Z.1 (v := (-1)) (by decide) dX6_init_5 ?_
  replace hf := tg_i hf
  obtain ⟨t1, hf⟩ := hf
  refine J_putI Z.1 dX6_init_6 fl_X6_9 (fun q => by cases q) t1 rfl rfl (congrArg Value.int (hI_s _ _ _ _)) ?_
  refine J_th (fun h2 eh2 => ?_)
  replace hf := lt_i hf h2 eh2
  refine J_aload_n Z.1 0 dX6_init_9 rfl rfl ?_
  refine J_iconst Z.1 (v := (-1)) (by decide) dX6_init_10 ?_
  refine J_putI Z.1 dX6_init_11 fl_X6_15 (fun q => by cases q) t1 rfl rfl (congrArg Value.int (hI_s _ _ _ _)) ?_
  refine J_th (fun h3 eh3 => ?_)
  replace hf := lt_i hf h3 eh3
  refine J_aload_n Z.1 0 dX6_init_14 rfl rfl ?_
  refine J_iconst Z.1 (v := 0) (by decide) dX6_init_15 ?_
  replace hf := gq_i hf
  obtain ⟨n7, hf⟩ := hf
  have M8 := rmA Z M n7
  refine J_newa (t := 3) (N := 0) .byte Z.1 dX6_init_16 rfl rfl (by decide) (fun _ q => by cases q) q_241 (by decide) (by decide) (by decide) M M8 ?_
  refine J_tg (fun g4 eg4 => ?_)
  rw [← eg4] at M8
  replace hf := lt_i hf g4 eg4
  refine J_th (fun h5 eh5 => ?_)
  replace hf := lt_i hf h5 eh5
  refine J_ta (fun a6 ea6 => ?_)
  replace hf := lt_i hf a6 ea6
  replace hf := tg_i hf
  obtain ⟨t9, hf⟩ := hf
  refine J_putR Z.1 dX6_init_18 fl_X6_18 (fun q => by cases q) t9 (Or.inr ⟨_, rfl⟩) ?_
  refine J_th (fun h10 eh10 => ?_)
  replace hf := lt_i hf h10 eh10
  refine J_aload_n Z.1 0 dX6_init_21 rfl rfl ?_
  replace hf := kR_i hf
  obtain ⟨a11, ea11, hf⟩ := hf
  refine J_ldcS (i := 0) Z.1 dX6_init_22 rfl rfl rfl (yEv Z hE ea11) ?_
  refine J_putR Z.1 dX6_init_24 fl_X6_24 (fun q => by cases q) t9 (Or.inl ⟨_, rfl⟩) ?_
  refine J_th (fun h12 eh12 => ?_)
  replace hf := lt_i hf h12 eh12
  cases hf
  exact J_vret Z.1 Z.2.2.2.2.1 dX6_init_27
theorem dX6_sortOf_0 : decode cX6_sortOf 0 = .ok (.iload_n 0, 1) := by decide +kernel
theorem dX6_sortOf_1 : decode cX6_sortOf 1 = .ok (.bipush 97, 2) := by decide +kernel
theorem dX6_sortOf_3 : decode cX6_sortOf 3 = .ok (.if_icmp .lt 11, 3) := by decide +kernel
theorem dX6_sortOf_6 : decode cX6_sortOf 6 = .ok (.iload_n 0, 1) := by decide +kernel
theorem dX6_sortOf_7 : decode cX6_sortOf 7 = .ok (.bipush 122, 2) := by decide +kernel
theorem dX6_sortOf_9 : decode cX6_sortOf 9 = .ok (.if_icmp .gt 5, 3) := by decide +kernel
theorem dX6_sortOf_12 : decode cX6_sortOf 12 = .ok (.iconst 1, 1) := by decide +kernel
theorem dX6_sortOf_13 : decode cX6_sortOf 13 = .ok (.ireturn, 1) := by decide +kernel
theorem dX6_sortOf_14 : decode cX6_sortOf 14 = .ok (.iload_n 0, 1) := by decide +kernel
theorem dX6_sortOf_15 : decode cX6_sortOf 15 = .ok (.bipush 48, 2) := by decide +kernel
theorem dX6_sortOf_17 : decode cX6_sortOf 17 = .ok (.if_icmp .lt 11, 3) := by decide +kernel
theorem dX6_sortOf_20 : decode cX6_sortOf 20 = .ok (.iload_n 0, 1) := by decide +kernel
theorem dX6_sortOf_21 : decode cX6_sortOf 21 = .ok (.bipush 57, 2) := by decide +kernel
theorem dX6_sortOf_23 : decode cX6_sortOf 23 = .ok (.if_icmp .gt 5, 3) := by decide +kernel
theorem dX6_sortOf_26 : decode cX6_sortOf 26 = .ok (.iconst 2, 1) := by decide +kernel
theorem dX6_sortOf_27 : decode cX6_sortOf 27 = .ok (.ireturn, 1) := by decide +kernel
theorem dX6_sortOf_28 : decode cX6_sortOf 28 = .ok (.iload_n 0, 1) := by decide +kernel
theorem dX6_sortOf_29 : decode cX6_sortOf 29 = .ok (.bipush 59, 2) := by decide +kernel
theorem dX6_sortOf_31 : decode cX6_sortOf 31 = .ok (.if_icmp .ne 7, 3) := by decide +kernel
theorem dX6_sortOf_34 : decode cX6_sortOf 34 = .ok (.iconst 3, 1) := by decide +kernel
theorem dX6_sortOf_35 : decode cX6_sortOf 35 = .ok (.goto 4, 3) := by decide +kernel
theorem dX6_sortOf_38 : decode cX6_sortOf 38 = .ok (.iconst 0, 1) := by decide +kernel
theorem dX6_sortOf_39 : decode cX6_sortOf 39 = .ok (.ireturn, 1) := by decide +kernel
def pX6_sortOf_b28 (p0 : Int32)  : Int32 := if p0 = 59 then 3 else 0
set_option maxRecDepth 10000 in
set_option maxHeartbeats 4000000 in
theorem pX6_sortOf_b28_ok {X : Cx} {G : Gx} {dk : Nat} {g : MT} {r0 : Int32} {h0 : CT} {p0 : Int32} (Z : Zx X G cX6_sortOf RX6 1 dk (some .int) (some (.int r0)) g h0) (hK : 0 ≤ dk)  (hf : pX6_sortOf_b28 p0 = r0) : J X g h0 28 [(0, .int p0)] [] := by
  unfold pX6_sortOf_b28 at hf
  refine J_iload_n Z.1 0 dX6_sortOf_28 rfl rfl ?_
  refine J_bipush Z.1 (v := 59) (by decide) dX6_sortOf_29 ?_
  refine J_icmp_ne Z.1 38 dX6_sortOf_31 (by decide) (fun c1 => ?_) (fun c1 => ?_)
  · rw [if_neg c1] at hf
    refine J_iconst Z.1 (v := 0) (by decide) dX6_sortOf_38 ?_
    cases hf
    exact J_iret Z.1 Z.2.2.2.2.2 dX6_sortOf_39
  · rw [if_pos c1] at hf
    refine J_iconst Z.1 (v := 3) (by decide) dX6_sortOf_34 ?_
    refine J_goto Z.1 39 dX6_sortOf_35 (by decide) ?_
    cases hf
    exact J_iret Z.1 Z.2.2.2.2.2 dX6_sortOf_39
def pX6_sortOf_b14 (p0 : Int32)  : Int32 := if p0 < 48 then pX6_sortOf_b28 p0   else if 57 < p0 then pX6_sortOf_b28 p0   else 2
set_option maxRecDepth 10000 in
set_option maxHeartbeats 4000000 in
theorem pX6_sortOf_b14_ok {X : Cx} {G : Gx} {dk : Nat} {g : MT} {r0 : Int32} {h0 : CT} {p0 : Int32} (Z : Zx X G cX6_sortOf RX6 1 dk (some .int) (some (.int r0)) g h0) (hK : 0 ≤ dk)  (hf : pX6_sortOf_b14 p0 = r0) : J X g h0 14 [(0, .int p0)] [] := by
  unfold pX6_sortOf_b14 at hf
  refine J_iload_n Z.1 0 dX6_sortOf_14 rfl rfl ?_
  refine J_bipush Z.1 (v := 48) (by decide) dX6_sortOf_15 ?_
  refine J_icmp_lt Z.1 28 dX6_sortOf_17 (by decide) (fun c1 => ?_) (fun c1 => ?_)
  · rw [if_pos c1] at hf
    exact pX6_sortOf_b28_ok Z hK   hf
  · rw [if_neg c1] at hf
    refine J_iload_n Z.1 0 dX6_sortOf_20 rfl rfl ?_
    refine J_bipush Z.1 (v := 57) (by decide) dX6_sortOf_21 ?_
    refine J_icmp_gt Z.1 28 dX6_sortOf_23 (by decide) (fun c2 => ?_) (fun c2 => ?_)
    · rw [if_pos c2] at hf
      exact pX6_sortOf_b28_ok Z hK   hf
    · rw [if_neg c2] at hf
      refine J_iconst Z.1 (v := 2) (by decide) dX6_sortOf_26 ?_
      cases hf
      exact J_iret Z.1 Z.2.2.2.2.2 dX6_sortOf_27
def pX6_sortOf (p0 : Int32) : Int32 := if p0 < 97 then pX6_sortOf_b14 p0   else if 122 < p0 then pX6_sortOf_b14 p0   else 1
set_option maxRecDepth 10000 in
set_option maxHeartbeats 4000000 in
theorem pX6_sortOf_ok (G : Gx) (dk : Nat) (hK : 0 ≤ dk) (g : MT) (h0 : CT) (p0 : Int32) : Ctr G dk yX6_sortOf cX6_sortOf 1 (some .int) [.int p0] g h0 (some (.int (pX6_sortOf p0))) g h0 := by
  obtain ⟨r0, hf⟩ : ∃ z, pX6_sortOf p0 = z := ⟨_, rfl⟩
  rw [hf]
  refine Ctr.ofZ (lv := [(0, .int p0)]) (by decide +kernel) (by simp [cat_i, cat_l, cat_d, cat_rf]) rfl fun X Z => ?_
  unfold pX6_sortOf at hf
  refine J_iload_n Z.1 0 dX6_sortOf_0 rfl rfl ?_
  refine J_bipush Z.1 (v := 97) (by decide) dX6_sortOf_1 ?_
  refine J_icmp_lt Z.1 14 dX6_sortOf_3 (by decide) (fun c1 => ?_) (fun c1 => ?_)
  · rw [if_pos c1] at hf
    exact pX6_sortOf_b14_ok Z hK   hf
  · rw [if_neg c1] at hf
    refine J_iload_n Z.1 0 dX6_sortOf_6 rfl rfl ?_
    refine J_bipush Z.1 (v := 122) (by decide) dX6_sortOf_7 ?_
    refine J_icmp_gt Z.1 14 dX6_sortOf_9 (by decide) (fun c2 => ?_) (fun c2 => ?_)
    · rw [if_pos c2] at hf
      exact pX6_sortOf_b14_ok Z hK   hf
    · rw [if_neg c2] at hf
      refine J_iconst Z.1 (v := 1) (by decide) dX6_sortOf_12 ?_
      cases hf
      exact J_iret Z.1 Z.2.2.2.2.2 dX6_sortOf_13
theorem dX6_mostFor_0 : decode cX6_mostFor 0 = .ok (.iload_n 0, 1) := by decide +kernel
theorem dX6_mostFor_1 : decode cX6_mostFor 1 = .ok (.bipush 112, 2) := by decide +kernel
theorem dX6_mostFor_3 : decode cX6_mostFor 3 = .ok (.if_icmp .ne 6, 3) := by decide +kernel
theorem dX6_mostFor_6 : decode cX6_mostFor 6 = .ok (.bipush 63, 2) := by decide +kernel
theorem dX6_mostFor_8 : decode cX6_mostFor 8 = .ok (.ireturn, 1) := by decide +kernel
theorem dX6_mostFor_9 : decode cX6_mostFor 9 = .ok (.iload_n 0, 1) := by decide +kernel
theorem dX6_mostFor_10 : decode cX6_mostFor 10 = .ok (.bipush 110, 2) := by decide +kernel
theorem dX6_mostFor_12 : decode cX6_mostFor 12 = .ok (.if_icmp .ne 9, 3) := by decide +kernel
theorem dX6_mostFor_15 : decode cX6_mostFor 15 = .ok (.sipush 200, 3) := by decide +kernel
theorem dX6_mostFor_18 : decode cX6_mostFor 18 = .ok (.goto 5, 3) := by decide +kernel
theorem dX6_mostFor_21 : decode cX6_mostFor 21 = .ok (.bipush 16, 2) := by decide +kernel
theorem dX6_mostFor_23 : decode cX6_mostFor 23 = .ok (.ireturn, 1) := by decide +kernel
def pX6_mostFor (p0 : Int32) : Int32 := if p0 = 112 then 63 else if p0 = 110 then 200 else 16
set_option maxRecDepth 10000 in
set_option maxHeartbeats 4000000 in
theorem pX6_mostFor_ok (G : Gx) (dk : Nat) (hK : 0 ≤ dk) (g : MT) (h0 : CT) (p0 : Int32) : Ctr G dk yX6_mostFor cX6_mostFor 1 (some .int) [.int p0] g h0 (some (.int (pX6_mostFor p0))) g h0 := by
  obtain ⟨r0, hf⟩ : ∃ z, pX6_mostFor p0 = z := ⟨_, rfl⟩
  rw [hf]
  refine Ctr.ofZ (lv := [(0, .int p0)]) (by decide +kernel) (by simp [cat_i, cat_l, cat_d, cat_rf]) rfl fun X Z => ?_
  unfold pX6_mostFor at hf
  refine J_iload_n Z.1 0 dX6_mostFor_0 rfl rfl ?_
  refine J_bipush Z.1 (v := 112) (by decide) dX6_mostFor_1 ?_
  refine J_icmp_ne Z.1 9 dX6_mostFor_3 (by decide) (fun c1 => ?_) (fun c1 => ?_)
  · rw [if_neg c1] at hf
    refine J_iload_n Z.1 0 dX6_mostFor_9 rfl rfl ?_
    refine J_bipush Z.1 (v := 110) (by decide) dX6_mostFor_10 ?_
    refine J_icmp_ne Z.1 21 dX6_mostFor_12 (by decide) (fun c2 => ?_) (fun c2 => ?_)
    · rw [if_neg c2] at hf
      refine J_bipush Z.1 (v := 16) (by decide) dX6_mostFor_21 ?_
      cases hf
      exact J_iret Z.1 Z.2.2.2.2.2 dX6_mostFor_23
    · rw [if_pos c2] at hf
      refine J_sipush Z.1 (v := 200) (by decide) dX6_mostFor_15 ?_
      refine J_goto Z.1 23 dX6_mostFor_18 (by decide) ?_
      cases hf
      exact J_iret Z.1 Z.2.2.2.2.2 dX6_mostFor_23
  · rw [if_pos c1] at hf
    refine J_bipush Z.1 (v := 63) (by decide) dX6_mostFor_6 ?_
    cases hf
    exact J_iret Z.1 Z.2.2.2.2.2 dX6_mostFor_8
theorem dX6_letterBehind_0 : decode cX6_letterBehind 0 = .ok (.aload_n 0, 1) := by decide +kernel
theorem dX6_letterBehind_1 : decode cX6_letterBehind 1 = .ok (.getfield 76, 3) := by decide +kernel
theorem dX6_letterBehind_4 : decode cX6_letterBehind 4 = .ok (.iconst 1, 1) := by decide +kernel
theorem dX6_letterBehind_5 : decode cX6_letterBehind 5 = .ok (.if_icmp .ne 29, 3) := by decide +kernel
theorem dX6_letterBehind_8 : decode cX6_letterBehind 8 = .ok (.aload_n 0, 1) := by decide +kernel
theorem dX6_letterBehind_9 : decode cX6_letterBehind 9 = .ok (.getfield 37, 3) := by decide +kernel
theorem dX6_letterBehind_12 : decode cX6_letterBehind 12 = .ok (.aload_n 0, 1) := by decide +kernel
theorem dX6_letterBehind_13 : decode cX6_letterBehind 13 = .ok (.getfield 65, 3) := by decide +kernel
theorem dX6_letterBehind_16 : decode cX6_letterBehind 16 = .ok (.isub, 1) := by decide +kernel
theorem dX6_letterBehind_17 : decode cX6_letterBehind 17 = .ok (.iconst 2, 1) := by decide +kernel
theorem dX6_letterBehind_18 : decode cX6_letterBehind 18 = .ok (.if_icmp .ne 16, 3) := by decide +kernel
theorem dX6_letterBehind_21 : decode cX6_letterBehind 21 = .ok (.aload_n 0, 1) := by decide +kernel
theorem dX6_letterBehind_22 : decode cX6_letterBehind 22 = .ok (.getfield 18, 3) := by decide +kernel
theorem dX6_letterBehind_25 : decode cX6_letterBehind 25 = .ok (.aload_n 0, 1) := by decide +kernel
theorem dX6_letterBehind_26 : decode cX6_letterBehind 26 = .ok (.getfield 65, 3) := by decide +kernel
theorem dX6_letterBehind_29 : decode cX6_letterBehind 29 = .ok (.baload, 1) := by decide +kernel
theorem dX6_letterBehind_30 : decode cX6_letterBehind 30 = .ok (.iload_n 1, 1) := by decide +kernel
theorem dX6_letterBehind_31 : decode cX6_letterBehind 31 = .ok (.if_icmp .eq 5, 3) := by decide +kernel
theorem dX6_letterBehind_34 : decode cX6_letterBehind 34 = .ok (.iconst (-1), 1) := by decide +kernel
theorem dX6_letterBehind_35 : decode cX6_letterBehind 35 = .ok (.ireturn, 1) := by decide +kernel
theorem dX6_letterBehind_36 : decode cX6_letterBehind 36 = .ok (.aload_n 0, 1) := by decide +kernel
theorem dX6_letterBehind_37 : decode cX6_letterBehind 37 = .ok (.getfield 18, 3) := by decide +kernel
theorem dX6_letterBehind_40 : decode cX6_letterBehind 40 = .ok (.aload_n 0, 1) := by decide +kernel
theorem dX6_letterBehind_41 : decode cX6_letterBehind 41 = .ok (.getfield 65, 3) := by decide +kernel
theorem dX6_letterBehind_44 : decode cX6_letterBehind 44 = .ok (.iconst 1, 1) := by decide +kernel
theorem dX6_letterBehind_45 : decode cX6_letterBehind 45 = .ok (.iadd, 1) := by decide +kernel
theorem dX6_letterBehind_46 : decode cX6_letterBehind 46 = .ok (.baload, 1) := by decide +kernel
theorem dX6_letterBehind_47 : decode cX6_letterBehind 47 = .ok (.bipush 97, 2) := by decide +kernel
theorem dX6_letterBehind_49 : decode cX6_letterBehind 49 = .ok (.isub, 1) := by decide +kernel
theorem dX6_letterBehind_50 : decode cX6_letterBehind 50 = .ok (.istore_n 3, 1) := by decide +kernel
theorem dX6_letterBehind_51 : decode cX6_letterBehind 51 = .ok (.iload_n 3, 1) := by decide +kernel
theorem dX6_letterBehind_52 : decode cX6_letterBehind 52 = .ok (.iload_n 2, 1) := by decide +kernel
theorem dX6_letterBehind_53 : decode cX6_letterBehind 53 = .ok (.if_icmp .ge 7, 3) := by decide +kernel
theorem dX6_letterBehind_56 : decode cX6_letterBehind 56 = .ok (.iload_n 3, 1) := by decide +kernel
theorem dX6_letterBehind_57 : decode cX6_letterBehind 57 = .ok (.goto 4, 3) := by decide +kernel
theorem dX6_letterBehind_60 : decode cX6_letterBehind 60 = .ok (.iconst (-1), 1) := by decide +kernel
theorem dX6_letterBehind_61 : decode cX6_letterBehind 61 = .ok (.ireturn, 1) := by decide +kernel
def pX6_letterBehind (g : MT) (h : CT) (this : Nat) (p1 : Int32) (p2 : Int32) : Option Int32 := tg g this 5 (if (hI h this 6) = 1 then if ((hI h this 5) - (hI h this 4)) = 2 then lt (hR h this 2) fun r3 => (nn r3 fun a3 => (tg g a3 23 (ix (gL g a3) (hI h this 4) (if (hI h a3 (Int32.toNatClampNeg (hI h this 4))) = p1 then lt (hR h this 2) fun r7 => (nn r7 fun a7 => (tg g a7 23 (ix (gL g a7) ((hI h this 4) + 1) (lt ((hI h a7 (Int32.toNatClampNeg ((hI h this 4) + 1))) - 97) fun x10 => (if p2 ≤ x10 then some (-1) else some x10))))) else some (-1))))) else some (-1) else some (-1))
set_option maxRecDepth 10000 in
set_option maxHeartbeats 4000000 in
theorem pX6_letterBehind_ok (G : Gx) (dk : Nat) (hK : 0 ≤ dk) {g : MT} {h : CT} {this : Nat} {p1 : Int32} {p2 : Int32} {r0 : Int32} (hf : pX6_letterBehind g h this p1 p2 = some r0) : Ctr G dk yX6_letterBehind cX6_letterBehind 4 (some .int) [va_rf (some this), .int p1, .int p2] g h (some (.int r0)) g h := by
  refine Ctr.ofZ (lv := [(0, va_rf (some this)), (1, .int p1), (2, .int p2)]) (by decide +kernel) (by simp [cat_i, cat_l, cat_d, cat_rf]) rfl fun X Z => ?_
  unfold pX6_letterBehind at hf
  replace hf := tg_i hf
  obtain ⟨t0, hf⟩ := hf
  refine J_aload_n Z.1 0 dX6_letterBehind_0 rfl rfl ?_
  refine J_get (v := .int (hI h this 6)) Z.1 dX6_letterBehind_1 fl_X6_76 t0 rfl ?_
  refine J_iconst Z.1 (v := 1) (by decide) dX6_letterBehind_4 ?_
  refine J_icmp_ne Z.1 34 dX6_letterBehind_5 (by decide) (fun c1 => ?_) (fun c1 => ?_)
  · rw [if_neg c1] at hf
    refine J_iconst Z.1 (v := (-1)) (by decide) dX6_letterBehind_34 ?_
    cases hf
    exact J_iret Z.1 Z.2.2.2.2.2 dX6_letterBehind_35
  · rw [if_pos c1] at hf
    refine J_aload_n Z.1 0 dX6_letterBehind_8 rfl rfl ?_
    refine J_get (v := .int (hI h this 5)) Z.1 dX6_letterBehind_9 fl_X6_37 t0 rfl ?_
    refine J_aload_n Z.1 0 dX6_letterBehind_12 rfl rfl ?_
    refine J_get (v := .int (hI h this 4)) Z.1 dX6_letterBehind_13 fl_X6_65 t0 rfl ?_
    refine J_isub Z.1 dX6_letterBehind_16 ?_
    refine J_iconst Z.1 (v := 2) (by decide) dX6_letterBehind_17 ?_
    refine J_icmp_ne Z.1 34 dX6_letterBehind_18 (by decide) (fun c2 => ?_) (fun c2 => ?_)
    · rw [if_neg c2] at hf
      refine J_iconst Z.1 (v := (-1)) (by decide) dX6_letterBehind_34 ?_
      cases hf
      exact J_iret Z.1 Z.2.2.2.2.2 dX6_letterBehind_35
    · rw [if_pos c2] at hf
      refine J_aload_n Z.1 0 dX6_letterBehind_21 rfl rfl ?_
      refine J_get (v := va_rf (hR h this 2)) Z.1 dX6_letterBehind_22 fl_X6_18 t0 rfl ?_
      refine J_tr (fun r3 er3 => ?_)
      replace hf := lt_i hf r3 er3
      refine J_aload_n Z.1 0 dX6_letterBehind_25 rfl rfl ?_
      refine J_get (v := .int (hI h this 4)) Z.1 dX6_letterBehind_26 fl_X6_65 t0 rfl ?_
      replace hf := nn_i hf
      obtain ⟨a3, rfl, hf⟩ := hf
      replace hf := tg_i hf
      obtain ⟨t4, hf⟩ := hf
      replace hf := ix_i hf
      obtain ⟨i5, hf⟩ := hf
      refine J_baload Z.1 dX6_letterBehind_29 t4 i5 ?_
      refine J_iload_n Z.1 1 dX6_letterBehind_30 rfl rfl ?_
      refine J_icmp_eq Z.1 36 dX6_letterBehind_31 (by decide) (fun c6 => ?_) (fun c6 => ?_)
      · rw [if_pos c6] at hf
        refine J_aload_n Z.1 0 dX6_letterBehind_36 rfl rfl ?_
        refine J_get (v := va_rf (hR h this 2)) Z.1 dX6_letterBehind_37 fl_X6_18 t0 rfl ?_
        refine J_tr (fun r7 er7 => ?_)
        replace hf := lt_i hf r7 er7
        refine J_aload_n Z.1 0 dX6_letterBehind_40 rfl rfl ?_
        refine J_get (v := .int (hI h this 4)) Z.1 dX6_letterBehind_41 fl_X6_65 t0 rfl ?_
        refine J_iconst Z.1 (v := 1) (by decide) dX6_letterBehind_44 ?_
        refine J_iadd Z.1 dX6_letterBehind_45 ?_
        replace hf := nn_i hf
        obtain ⟨a7, rfl, hf⟩ := hf
        replace hf := tg_i hf
        obtain ⟨t8, hf⟩ := hf
        replace hf := ix_i hf
        obtain ⟨i9, hf⟩ := hf
        refine J_baload Z.1 dX6_letterBehind_46 t8 i9 ?_
        refine J_bipush Z.1 (v := 97) (by decide) dX6_letterBehind_47 ?_
        refine J_isub Z.1 dX6_letterBehind_49 ?_
        refine J_ti (fun x10 ex10 => ?_)
        replace hf := lt_i hf x10 ex10
        refine J_istore_n Z.1 (lv2 := [(3, .int x10), (0, va_rf (some this)), (1, .int p1), (2, .int p2)]) dX6_letterBehind_50 rfl (zL Z (by decide)) rfl ?_
        refine J_iload_n Z.1 0 dX6_letterBehind_51 rfl rfl ?_
        refine J_iload_n Z.1 3 dX6_letterBehind_52 rfl rfl ?_
        refine J_icmp_ge Z.1 60 dX6_letterBehind_53 (by decide) (fun c11 => ?_) (fun c11 => ?_)
        · rw [if_pos c11] at hf
          refine J_iconst Z.1 (v := (-1)) (by decide) dX6_letterBehind_60 ?_
          cases hf
          exact J_iret Z.1 Z.2.2.2.2.2 dX6_letterBehind_61
        · rw [if_neg c11] at hf
          refine J_iload_n Z.1 0 dX6_letterBehind_56 rfl rfl ?_
          refine J_goto Z.1 61 dX6_letterBehind_57 (by decide) ?_
          cases hf
          exact J_iret Z.1 Z.2.2.2.2.2 dX6_letterBehind_61
      · rw [if_neg c6] at hf
        refine J_iconst Z.1 (v := (-1)) (by decide) dX6_letterBehind_34 ?_
        cases hf
        exact J_iret Z.1 Z.2.2.2.2.2 dX6_letterBehind_35
theorem dX6_isText_0 : decode cX6_isText 0 = .ok (.aload_n 0, 1) := by decide +kernel
theorem dX6_isText_1 : decode cX6_isText 1 = .ok (.getfield 76, 3) := by decide +kernel
theorem dX6_isText_4 : decode cX6_isText 4 = .ok (.iconst 1, 1) := by decide +kernel
theorem dX6_isText_5 : decode cX6_isText 5 = .ok (.if_icmp .ne 19, 3) := by decide +kernel
theorem dX6_isText_8 : decode cX6_isText 8 = .ok (.aload_n 0, 1) := by decide +kernel
theorem dX6_isText_9 : decode cX6_isText 9 = .ok (.getfield 37, 3) := by decide +kernel
theorem dX6_isText_12 : decode cX6_isText 12 = .ok (.aload_n 0, 1) := by decide +kernel
theorem dX6_isText_13 : decode cX6_isText 13 = .ok (.getfield 65, 3) := by decide +kernel
theorem dX6_isText_16 : decode cX6_isText 16 = .ok (.isub, 1) := by decide +kernel
theorem dX6_isText_17 : decode cX6_isText 17 = .ok (.aload_n 1, 1) := by decide +kernel
theorem dX6_isText_18 : decode cX6_isText 18 = .ok (.invokevirtual 68, 3) := by decide +kernel
theorem dX6_isText_21 : decode cX6_isText 21 = .ok (.if_icmp .eq 5, 3) := by decide +kernel
theorem dX6_isText_24 : decode cX6_isText 24 = .ok (.iconst 0, 1) := by decide +kernel
theorem dX6_isText_25 : decode cX6_isText 25 = .ok (.ireturn, 1) := by decide +kernel
theorem dX6_isText_26 : decode cX6_isText 26 = .ok (.iconst 0, 1) := by decide +kernel
theorem dX6_isText_27 : decode cX6_isText 27 = .ok (.istore_n 2, 1) := by decide +kernel
theorem dX6_isText_28 : decode cX6_isText 28 = .ok (.iload_n 2, 1) := by decide +kernel
theorem dX6_isText_29 : decode cX6_isText 29 = .ok (.aload_n 1, 1) := by decide +kernel
theorem dX6_isText_30 : decode cX6_isText 30 = .ok (.invokevirtual 68, 3) := by decide +kernel
theorem dX6_isText_33 : decode cX6_isText 33 = .ok (.if_icmp .ge 30, 3) := by decide +kernel
theorem dX6_isText_36 : decode cX6_isText 36 = .ok (.aload_n 0, 1) := by decide +kernel
theorem dX6_isText_37 : decode cX6_isText 37 = .ok (.getfield 18, 3) := by decide +kernel
theorem dX6_isText_40 : decode cX6_isText 40 = .ok (.aload_n 0, 1) := by decide +kernel
theorem dX6_isText_41 : decode cX6_isText 41 = .ok (.getfield 65, 3) := by decide +kernel
theorem dX6_isText_44 : decode cX6_isText 44 = .ok (.iload_n 2, 1) := by decide +kernel
theorem dX6_isText_45 : decode cX6_isText 45 = .ok (.iadd, 1) := by decide +kernel
theorem dX6_isText_46 : decode cX6_isText 46 = .ok (.baload, 1) := by decide +kernel
theorem dX6_isText_47 : decode cX6_isText 47 = .ok (.aload_n 1, 1) := by decide +kernel
theorem dX6_isText_48 : decode cX6_isText 48 = .ok (.iload_n 2, 1) := by decide +kernel
theorem dX6_isText_49 : decode cX6_isText 49 = .ok (.invokevirtual 111, 3) := by decide +kernel
theorem dX6_isText_52 : decode cX6_isText 52 = .ok (.if_icmp .eq 5, 3) := by decide +kernel
theorem dX6_isText_55 : decode cX6_isText 55 = .ok (.iconst 0, 1) := by decide +kernel
theorem dX6_isText_56 : decode cX6_isText 56 = .ok (.ireturn, 1) := by decide +kernel
theorem dX6_isText_57 : decode cX6_isText 57 = .ok (.iinc 2 1, 3) := by decide +kernel
theorem dX6_isText_60 : decode cX6_isText 60 = .ok (.goto (-32), 3) := by decide +kernel
theorem dX6_isText_63 : decode cX6_isText 63 = .ok (.iconst 1, 1) := by decide +kernel
theorem dX6_isText_64 : decode cX6_isText 64 = .ok (.ireturn, 1) := by decide +kernel
def pX6_isText_b28 (E : EC) (g : MT) (this : Nat) (p1 : Nat) (k28 : Int32 → CT → Option ((Int32) × CT)) (l2 : Int32) (h : CT) : Option ((Int32) × CT) := tg E.2.2 p1 61 (bd (pJ0_length_8abf5 E g h p1) fun x2 => (if x2 ≤ l2 then some (1, h) else lt (hR h this 2) fun r5 => (nn r5 fun a5 => (tg g a5 23 (ix (gL g a5) ((hI h this 4) + l2) (bd2 (pJ0_charAt_5068e E g h p1 l2) fun x10 h8 => (if (hI h a5 (Int32.toNatClampNeg ((hI h this 4) + l2))) = x10 then lt (l2 + 1) fun x12 => (k28 x12 h8) else some (0, h8))))))))
set_option maxRecDepth 10000 in
set_option maxHeartbeats 4000000 in
theorem pX6_isText_b28_ok {X : Cx} {G : Gx} {dk : Nat} {g : MT} {r0 : Int32} {h0 : CT} {this : Nat} {p1 : Nat} {k28 : Int32 → CT → Option ((Int32) × CT)} (Z : Zx X G cX6_isText RX6 3 dk (some .boolean) (some (.int r0)) g h0) (hK : 4 ≤ dk) {E : EC} (hE : G.2.2.2 = E) (t0 : gT g this = 5) (hk28 : ∀ (l2 : Int32) (h : CT), k28 l2 h = some (r0, h0) → J X g h 28 [(0, va_rf (some this)), (1, va_rf (some p1)), (2, .int l2)] []) (l2 : Int32) (h : CT) (hf : pX6_isText_b28 E g this p1 k28 l2 h = some (r0, h0)) : J X g h 28 [(0, va_rf (some this)), (1, va_rf (some p1)), (2, .int l2)] [] := by
  unfold pX6_isText_b28 at hf
  refine J_iload_n Z.1 2 dX6_isText_28 rfl rfl ?_
  refine J_aload_n Z.1 1 dX6_isText_29 rfl rfl ?_
  replace hf := tg_i hf
  obtain ⟨t1, hf⟩ := hf
  rw [← zE Z hE] at t1
  replace hf := bd_i hf
  obtain ⟨x2, q3, hf⟩ := hf
  refine J_callK (as := []) (rest := [.int l2]) (sy := [.int x2, .int l2]) Z.1 dX6_isText_30 cw_X6_68 (pJ0_length_8abf5_ok G (dk - 1) (by omega) hE q3) (kT Z.1 t1) (zG Z) rfl (by simp [cat_i, cat_l, cat_d, cat_rf]) (zF Z (by omega)) (zO Z (by omega) (by decide)) (zM _) Z.2.1 Z.2.1 rfl rfl ?_
  refine J_icmp_ge Z.1 63 dX6_isText_33 (by decide) (fun c4 => ?_) (fun c4 => ?_)
  · rw [if_pos c4] at hf
    refine J_iconst Z.1 (v := 1) (by decide) dX6_isText_63 ?_
    cases hf
    exact J_zret Z.1 Z.2.2.2.2.2 (z_n (Or.inr rfl)) dX6_isText_64
  · rw [if_neg c4] at hf
    refine J_aload_n Z.1 0 dX6_isText_36 rfl rfl ?_
    refine J_get (v := va_rf (hR h this 2)) Z.1 dX6_isText_37 fl_X6_18 t0 rfl ?_
    refine J_tr (fun r5 er5 => ?_)
    replace hf := lt_i hf r5 er5
    refine J_aload_n Z.1 0 dX6_isText_40 rfl rfl ?_
    refine J_get (v := .int (hI h this 4)) Z.1 dX6_isText_41 fl_X6_65 t0 rfl ?_
    refine J_iload_n Z.1 2 dX6_isText_44 rfl rfl ?_
    refine J_iadd Z.1 dX6_isText_45 ?_
    replace hf := nn_i hf
    obtain ⟨a5, rfl, hf⟩ := hf
    replace hf := tg_i hf
    obtain ⟨t6, hf⟩ := hf
    replace hf := ix_i hf
    obtain ⟨i7, hf⟩ := hf
    refine J_baload Z.1 dX6_isText_46 t6 i7 ?_
    refine J_aload_n Z.1 1 dX6_isText_47 rfl rfl ?_
    refine J_iload_n Z.1 2 dX6_isText_48 rfl rfl ?_
    replace hf := bd2_i hf
    obtain ⟨x10, h8, q9, hf⟩ := hf
    refine J_callK (as := [.int l2]) (rest := [.int (hI h a5 (Int32.toNatClampNeg ((hI h this 4) + l2)))]) (sy := [.int x10, .int (hI h a5 (Int32.toNatClampNeg ((hI h this 4) + l2)))]) Z.1 dX6_isText_49 cw_X6_111 (pJ0_charAt_5068e_ok G (dk - 1) (by omega) hE q9) (kT Z.1 t1) (zG Z) rfl (by simp [cat_i, cat_l, cat_d, cat_rf]) (zF Z (by omega)) (zO Z (by omega) (by decide)) (zM _) Z.2.1 Z.2.1 rfl rfl ?_
    refine J_icmp_eq Z.1 57 dX6_isText_52 (by decide) (fun c11 => ?_) (fun c11 => ?_)
    · rw [if_pos c11] at hf
      refine J_iinc Z.1 (v := 1) (lv2 := [(2, .int (l2 + 1)), (0, va_rf (some this)), (1, va_rf (some p1))]) 2 dX6_isText_57 rfl (by decide) (zL Z (by decide)) rfl ?_
      obtain ⟨x12, ex12⟩ : ∃ z, z = (l2 + 1) := ⟨_, rfl⟩
      replace hf := lt_i hf x12 ex12
      rw [← ex12]
      refine J_goto Z.1 28 dX6_isText_60 (by decide) ?_
      refine J_lv [1, 2, 0] rfl ?_
      exact hk28 _ _ hf
    · rw [if_neg c11] at hf
      refine J_iconst Z.1 (v := 0) (by decide) dX6_isText_55 ?_
      cases hf
      exact J_zret Z.1 Z.2.2.2.2.2 (z_n (Or.inl rfl)) dX6_isText_56
def pX6_isText_l28 (E : EC) (g : MT) (this : Nat) (p1 : Nat) : Nat → Int32 → CT → Option ((Int32) × CT)
  | 0, _, _ => none
  | n + 1, l2, h => pX6_isText_b28 E g this p1 (pX6_isText_l28 E g this p1 n) l2 h
theorem pX6_isText_l28_ok {X : Cx} {G : Gx} {dk : Nat} {g : MT} {r0 : Int32} {h0 : CT} {this : Nat} {p1 : Nat} (Z : Zx X G cX6_isText RX6 3 dk (some .boolean) (some (.int r0)) g h0) (hK : 4 ≤ dk) {E : EC} (hE : G.2.2.2 = E) (t0 : gT g this = 5) : ∀ (n : Nat) (l2 : Int32) (h : CT), pX6_isText_l28 E g this p1 n l2 h = some (r0, h0) → J X g h 28 [(0, va_rf (some this)), (1, va_rf (some p1)), (2, .int l2)] [] := by
  intro n
  induction n with
  | zero => intro l2 h hf; cases hf
  | succ n ih => intro l2 h hf; exact pX6_isText_b28_ok Z hK hE t0 ih l2 h hf
def pX6_isText (E : EC) (g : MT) (h : CT) (this : Nat) (p1 : Nat) : Option ((Int32) × CT) := tg g this 5 (if (hI h this 6) = 1 then tg E.2.2 p1 61 (bd (pJ0_length_8abf5 E g h p1) fun x3 => (if ((hI h this 5) - (hI h this 4)) = x3 then pX6_isText_l28 E g this p1  FUEL 0 h else some (0, h))) else some (0, h))
set_option maxRecDepth 10000 in
set_option maxHeartbeats 4000000 in
theorem pX6_isText_ok (G : Gx) (dk : Nat) (hK : 4 ≤ dk) {g : MT} {E : EC} (hE : G.2.2.2 = E) {h h0 : CT} {this : Nat} {p1 : Nat} {r0 : Int32} (hf : pX6_isText E g h this p1 = some (r0, h0)) : Ctr G dk yX6_isText cX6_isText 3 (some .boolean) [va_rf (some this), va_rf (some p1)] g h (some (.int r0)) g h0 := by
  refine Ctr.ofZ (lv := [(0, va_rf (some this)), (1, va_rf (some p1))]) (by decide +kernel) (by simp [cat_i, cat_l, cat_d, cat_rf]) rfl fun X Z => ?_
  unfold pX6_isText at hf
  replace hf := tg_i hf
  obtain ⟨t0, hf⟩ := hf
  refine J_aload_n Z.1 0 dX6_isText_0 rfl rfl ?_
  refine J_get (v := .int (hI h this 6)) Z.1 dX6_isText_1 fl_X6_76 t0 rfl ?_
  refine J_iconst Z.1 (v := 1) (by decide) dX6_isText_4 ?_
  refine J_icmp_ne Z.1 24 dX6_isText_5 (by decide) (fun c1 => ?_) (fun c1 => ?_)
  · rw [if_neg c1] at hf
    refine J_iconst Z.1 (v := 0) (by decide) dX6_isText_24 ?_
    cases hf
    exact J_zret Z.1 Z.2.2.2.2.2 (z_n (Or.inl rfl)) dX6_isText_25
  · rw [if_pos c1] at hf
    refine J_aload_n Z.1 0 dX6_isText_8 rfl rfl ?_
    refine J_get (v := .int (hI h this 5)) Z.1 dX6_isText_9 fl_X6_37 t0 rfl ?_
    refine J_aload_n Z.1 0 dX6_isText_12 rfl rfl ?_
    refine J_get (v := .int (hI h this 4)) Z.1 dX6_isText_13 fl_X6_65 t0 rfl ?_
    refine J_isub Z.1 dX6_isText_16 ?_
    refine J_aload_n Z.1 1 dX6_isText_17 rfl rfl ?_
    replace hf := tg_i hf
    obtain ⟨t2, hf⟩ := hf
    rw [← zE Z hE] at t2
    replace hf := bd_i hf
    obtain ⟨x3, q4, hf⟩ := hf
    refine J_callK (as := []) (rest := [.int ((hI h this 5) - (hI h this 4))]) (sy := [.int x3, .int ((hI h this 5) - (hI h this 4))]) Z.1 dX6_isText_18 cw_X6_68 (pJ0_length_8abf5_ok G (dk - 1) (by omega) hE q4) (kT Z.1 t2) (zG Z) rfl (by simp [cat_i, cat_l, cat_d, cat_rf]) (zF Z (by omega)) (zO Z (by omega) (by decide)) (zM _) Z.2.1 Z.2.1 rfl rfl ?_
    refine J_icmp_eq Z.1 26 dX6_isText_21 (by decide) (fun c5 => ?_) (fun c5 => ?_)
    · rw [if_pos c5] at hf
      refine J_iconst Z.1 (v := 0) (by decide) dX6_isText_26 ?_
      refine J_istore_n Z.1 (lv2 := [(2, .int 0), (0, va_rf (some this)), (1, va_rf (some p1))]) dX6_isText_27 rfl (zL Z (by decide)) rfl ?_
      refine J_lv [1, 2, 0] rfl ?_
      exact pX6_isText_l28_ok Z hK hE t0  FUEL _ _ hf
    · rw [if_neg c5] at hf
      refine J_iconst Z.1 (v := 0) (by decide) dX6_isText_24 ?_
      cases hf
      exact J_zret Z.1 Z.2.2.2.2.2 (z_n (Or.inl rfl)) dX6_isText_25
theorem dX6_opNamed_0 : decode cX6_opNamed 0 = .ok (.getstatic 163, 3) := by decide +kernel
theorem dX6_opNamed_3 : decode cX6_opNamed 3 = .ok (.astore_n 1, 1) := by decide +kernel
theorem dX6_opNamed_4 : decode cX6_opNamed 4 = .ok (.aload_n 1, 1) := by decide +kernel
theorem dX6_opNamed_5 : decode cX6_opNamed 5 = .ok (.arraylength, 1) := by decide +kernel
theorem dX6_opNamed_6 : decode cX6_opNamed 6 = .ok (.istore_n 2, 1) := by decide +kernel
theorem dX6_opNamed_7 : decode cX6_opNamed 7 = .ok (.iconst 0, 1) := by decide +kernel
theorem dX6_opNamed_8 : decode cX6_opNamed 8 = .ok (.istore_n 3, 1) := by decide +kernel
theorem dX6_opNamed_9 : decode cX6_opNamed 9 = .ok (.iload_n 3, 1) := by decide +kernel
theorem dX6_opNamed_10 : decode cX6_opNamed 10 = .ok (.iload_n 2, 1) := by decide +kernel
theorem dX6_opNamed_11 : decode cX6_opNamed 11 = .ok (.if_icmp .ge 29, 3) := by decide +kernel
theorem dX6_opNamed_14 : decode cX6_opNamed 14 = .ok (.aload_n 1, 1) := by decide +kernel
theorem dX6_opNamed_15 : decode cX6_opNamed 15 = .ok (.iload_n 3, 1) := by decide +kernel
theorem dX6_opNamed_16 : decode cX6_opNamed 16 = .ok (.aaload, 1) := by decide +kernel
theorem dX6_opNamed_17 : decode cX6_opNamed 17 = .ok (.astore 4, 2) := by decide +kernel
theorem dX6_opNamed_19 : decode cX6_opNamed 19 = .ok (.aload_n 0, 1) := by decide +kernel
theorem dX6_opNamed_20 : decode cX6_opNamed 20 = .ok (.aload 4, 2) := by decide +kernel
theorem dX6_opNamed_22 : decode cX6_opNamed 22 = .ok (.getfield 167, 3) := by decide +kernel
theorem dX6_opNamed_25 : decode cX6_opNamed 25 = .ok (.invokevirtual 117, 3) := by decide +kernel
theorem dX6_opNamed_28 : decode cX6_opNamed 28 = .ok (.ifCond .eq 6, 3) := by decide +kernel
theorem dX6_opNamed_31 : decode cX6_opNamed 31 = .ok (.aload 4, 2) := by decide +kernel
theorem dX6_opNamed_33 : decode cX6_opNamed 33 = .ok (.areturn, 1) := by decide +kernel
theorem dX6_opNamed_34 : decode cX6_opNamed 34 = .ok (.iinc 3 1, 3) := by decide +kernel
theorem dX6_opNamed_37 : decode cX6_opNamed 37 = .ok (.goto (-28), 3) := by decide +kernel
theorem dX6_opNamed_40 : decode cX6_opNamed 40 = .ok (.aconst_null, 1) := by decide +kernel
theorem dX6_opNamed_41 : decode cX6_opNamed 41 = .ok (.areturn, 1) := by decide +kernel
def pX6_opNamed_b9 (E : EC) (g : MT) (this : Nat) (k9 : Nat → Int32 → Int32 → CT → Option ((Option Nat) × CT)) (l1 : Nat) (l2 : Int32) (l3 : Int32) (h : CT) : Option ((Option Nat) × CT) := if l2 ≤ l3 then some (none, h) else tg E.2.2 l1 25 (ix (gL E.2.2 l1) l3 (lt (hR E.2.1 l1 (Int32.toNatClampNeg l3)) fun r4 => (nn r4 fun a4 => (tg E.2.2 a4 60 (lt (hR E.2.1 a4 3) fun r6 => (nn r6 fun a6 => (bd2 (pX6_isText E g h this a6) fun x9 h7 => (if x9 = 0 then lt (l3 + 1) fun x11 => (k9 l1 l2 x11 h7) else some ((some a4), h7)))))))))
set_option maxRecDepth 10000 in
set_option maxHeartbeats 4000000 in
theorem pX6_opNamed_b9_ok {X : Cx} {G : Gx} {dk : Nat} {g : MT} {r0 : Option Nat} {h0 : CT} {this : Nat} {k9 : Nat → Int32 → Int32 → CT → Option ((Option Nat) × CT)} (Z : Zx X G cX6_opNamed RX6 5 dk (some (.object "VectorPipes$Op")) (some (va_rf r0)) g h0) (hK : 5 ≤ dk) {E : EC} (hE : G.2.2.2 = E) (t0 : gT g this = 5) (hk9 : ∀ (l1 : Nat) (l2 : Int32) (l3 : Int32) (h : CT), k9 l1 l2 l3 h = some (r0, h0) → J X g h 9 [(0, va_rf (some this)), (1, va_rf (some l1)), (2, .int l2), (3, .int l3)] []) (l1 : Nat) (l2 : Int32) (l3 : Int32) (h : CT) (hf : pX6_opNamed_b9 E g this k9 l1 l2 l3 h = some (r0, h0)) : J X g h 9 [(0, va_rf (some this)), (1, va_rf (some l1)), (2, .int l2), (3, .int l3)] [] := by
  unfold pX6_opNamed_b9 at hf
  refine J_iload_n Z.1 3 dX6_opNamed_9 rfl rfl ?_
  refine J_iload_n Z.1 2 dX6_opNamed_10 rfl rfl ?_
  refine J_icmp_ge Z.1 40 dX6_opNamed_11 (by decide) (fun c1 => ?_) (fun c1 => ?_)
  · rw [if_pos c1] at hf
    refine J_null Z.1 dX6_opNamed_40 ?_
    cases hf
    exact J_aret Z.1 Z.2.2.2.2.2 dX6_opNamed_41
  · rw [if_neg c1] at hf
    refine J_aload_n Z.1 1 dX6_opNamed_14 rfl rfl ?_
    refine J_iload_n Z.1 3 dX6_opNamed_15 rfl rfl ?_
    replace hf := tg_i hf
    obtain ⟨t2, hf⟩ := hf
    rw [← zE Z hE] at t2
    replace hf := ix_i hf
    obtain ⟨i3, hf⟩ := hf
    refine J_aaldK Z.1 dX6_opNamed_16 t2 (by rw [zE Z hE]; exact i3) ?_
    rw [zE Z hE]
    refine J_tr (fun r4 er4 => ?_)
    replace hf := lt_i hf r4 er4
    refine J_astore Z.1 (lv2 := [(4, va_rf r4), (0, va_rf (some this)), (1, va_rf (some l1)), (2, .int l2), (3, .int l3)]) dX6_opNamed_17 (zL Z (by decide)) rfl ?_
    refine J_aload_n Z.1 1 dX6_opNamed_19 rfl rfl ?_
    refine J_aload Z.1 0 dX6_opNamed_20 rfl ?_
    replace hf := nn_i hf
    obtain ⟨a4, rfl, hf⟩ := hf
    replace hf := tg_i hf
    obtain ⟨t5, hf⟩ := hf
    rw [← zE Z hE] at t5
    refine J_getO (k := 3) (v := va_rf (hR E.2.1 a4 3)) Z.1 dX6_opNamed_22 rfl t5 q_2178 (by rw [zE Z hE]; rfl) (cn_rf _) ?_
    refine J_tr (fun r6 er6 => ?_)
    replace hf := lt_i hf r6 er6
    replace hf := nn_i hf
    obtain ⟨a6, rfl, hf⟩ := hf
    replace hf := bd2_i hf
    obtain ⟨x9, h7, q8, hf⟩ := hf
    refine J_callV (ci := 4) (as := [va_rf (some a6)]) (rest := []) (sy := [.int x9]) Z.1 dX6_opNamed_25 cw_X6_117 (pX6_isText_ok G (dk - 1) (by omega) hE q8) rfl rfl t0 (zG Z) rfl (by decide) (zF Z (by omega)) (zO Z (by omega) (by decide)) (zM _) Z.2.1 Z.2.1 rfl rfl ?_
    refine J_if_eq Z.1 34 dX6_opNamed_28 (by decide) (fun c10 => ?_) (fun c10 => ?_)
    · rw [if_pos c10] at hf
      refine J_iinc Z.1 (v := 1) (lv2 := [(3, .int (l3 + 1)), (4, va_rf (some a4)), (0, va_rf (some this)), (1, va_rf (some l1)), (2, .int l2)]) 4 dX6_opNamed_34 rfl (by decide) (zL Z (by decide)) rfl ?_
      obtain ⟨x11, ex11⟩ : ∃ z, z = (l3 + 1) := ⟨_, rfl⟩
      replace hf := lt_i hf x11 ex11
      rw [← ex11]
      refine J_goto Z.1 9 dX6_opNamed_37 (by decide) ?_
      refine J_lv [2, 3, 4, 0] rfl ?_
      exact hk9 _ _ _ _ hf
    · rw [if_neg c10] at hf
      refine J_aload Z.1 0 dX6_opNamed_31 rfl ?_
      cases hf
      exact J_aret Z.1 Z.2.2.2.2.2 dX6_opNamed_33
def pX6_opNamed_l9 (E : EC) (g : MT) (this : Nat) : Nat → Nat → Int32 → Int32 → CT → Option ((Option Nat) × CT)
  | 0, _, _, _, _ => none
  | n + 1, l1, l2, l3, h => pX6_opNamed_b9 E g this (pX6_opNamed_l9 E g this n) l1 l2 l3 h
theorem pX6_opNamed_l9_ok {X : Cx} {G : Gx} {dk : Nat} {g : MT} {r0 : Option Nat} {h0 : CT} {this : Nat} (Z : Zx X G cX6_opNamed RX6 5 dk (some (.object "VectorPipes$Op")) (some (va_rf r0)) g h0) (hK : 5 ≤ dk) {E : EC} (hE : G.2.2.2 = E) (t0 : gT g this = 5) : ∀ (n : Nat) (l1 : Nat) (l2 : Int32) (l3 : Int32) (h : CT), pX6_opNamed_l9 E g this n l1 l2 l3 h = some (r0, h0) → J X g h 9 [(0, va_rf (some this)), (1, va_rf (some l1)), (2, .int l2), (3, .int l3)] [] := by
  intro n
  induction n with
  | zero => intro l1 l2 l3 h hf; cases hf
  | succ n ih => intro l1 l2 l3 h hf; exact pX6_opNamed_b9_ok Z hK hE t0 ih l1 l2 l3 h hf
def pX6_opNamed (E : EC) (g : MT) (h : CT) (this : Nat) : Option ((Option Nat) × CT) := tg g this 5 (kR (E.1 1) fun a1 => (tg E.2.2 a1 25 (lt (Int32.ofNat (gL E.2.2 a1)) fun x3 => (pX6_opNamed_l9 E g this  FUEL a1 x3 0 h))))
set_option maxRecDepth 10000 in
set_option maxHeartbeats 4000000 in
theorem pX6_opNamed_ok (G : Gx) (dk : Nat) (hK : 5 ≤ dk) {g : MT} {E : EC} (hE : G.2.2.2 = E) {h h0 : CT} {this : Nat} {r0 : Option Nat} (hf : pX6_opNamed E g h this = some (r0, h0)) : Ctr G dk yX6_opNamed cX6_opNamed 5 (some (.object "VectorPipes$Op")) [va_rf (some this)] g h (some (va_rf r0)) g h0 := by
  refine Ctr.ofZ (lv := [(0, va_rf (some this))]) (by decide +kernel) (by simp [cat_i, cat_l, cat_d, cat_rf]) rfl fun X Z => ?_
  unfold pX6_opNamed at hf
  replace hf := tg_i hf
  obtain ⟨t0, hf⟩ := hf
  replace hf := kR_i hf
  obtain ⟨a1, ea1, hf⟩ := hf
  refine J_getsN (i := 1) (v := va_rf (some a1)) Z.1 dX6_opNamed_0 rfl (kn2 Z.1) (zEv Z hE ea1) rfl ?_
  refine J_astore_n Z.1 (lv2 := [(1, va_rf (some a1)), (0, va_rf (some this))]) dX6_opNamed_3 rfl (zL Z (by decide)) rfl ?_
  refine J_aload_n Z.1 0 dX6_opNamed_4 rfl rfl ?_
  replace hf := tg_i hf
  obtain ⟨t2, hf⟩ := hf
  rw [← zE Z hE] at t2
  refine J_alenK (t := 5) Z.1 dX6_opNamed_5 t2 rfl ?_
  rw [zE Z hE]
  refine J_ti (fun x3 ex3 => ?_)
  replace hf := lt_i hf x3 ex3
  refine J_istore_n Z.1 (lv2 := [(2, .int x3), (1, va_rf (some a1)), (0, va_rf (some this))]) dX6_opNamed_6 rfl (zL Z (by decide)) rfl ?_
  refine J_iconst Z.1 (v := 0) (by decide) dX6_opNamed_7 ?_
  refine J_istore_n Z.1 (lv2 := [(3, .int 0), (2, .int x3), (1, va_rf (some a1)), (0, va_rf (some this))]) dX6_opNamed_8 rfl (zL Z (by decide)) rfl ?_
  refine J_lv [3, 2, 1, 0] rfl ?_
  exact pX6_opNamed_l9_ok Z hK hE t0  FUEL _ _ _ _ hf
theorem dX9_init_0 : decode cX9_init 0 = .ok (.aload_n 0, 1) := by decide +kernel
theorem dX9_init_1 : decode cX9_init 1 = .ok (.invokespecial 3, 3) := by decide +kernel
theorem dX9_init_4 : decode cX9_init 4 = .ok (.aload_n 0, 1) := by decide +kernel
theorem dX9_init_5 : decode cX9_init 5 = .ok (.aload_n 1, 1) := by decide +kernel
theorem dX9_init_6 : decode cX9_init 6 = .ok (.putfield 9, 3) := by decide +kernel
theorem dX9_init_9 : decode cX9_init 9 = .ok (.aload_n 0, 1) := by decide +kernel
theorem dX9_init_10 : decode cX9_init 10 = .ok (.new 15, 3) := by decide +kernel
theorem dX9_init_13 : decode cX9_init 13 = .ok (.dup, 1) := by decide +kernel
theorem dX9_init_14 : decode cX9_init 14 = .ok (.bipush 16, 2) := by decide +kernel
theorem dX9_init_16 : decode cX9_init 16 = .ok (.invokespecial 17, 3) := by decide +kernel
theorem dX9_init_19 : decode cX9_init 19 = .ok (.putfield 20, 3) := by decide +kernel
theorem dX9_init_22 : decode cX9_init 22 = .ok (.aload_n 0, 1) := by decide +kernel
theorem dX9_init_23 : decode cX9_init 23 = .ok (.new 24, 3) := by decide +kernel
theorem dX9_init_26 : decode cX9_init 26 = .ok (.dup, 1) := by decide +kernel
theorem dX9_init_27 : decode cX9_init 27 = .ok (.invokespecial 26, 3) := by decide +kernel
theorem dX9_init_30 : decode cX9_init 30 = .ok (.putfield 27, 3) := by decide +kernel
theorem dX9_init_33 : decode cX9_init 33 = .ok (.aload_n 0, 1) := by decide +kernel
theorem dX9_init_34 : decode cX9_init 34 = .ok (.new 24, 3) := by decide +kernel
theorem dX9_init_37 : decode cX9_init 37 = .ok (.dup, 1) := by decide +kernel
theorem dX9_init_38 : decode cX9_init 38 = .ok (.invokespecial 26, 3) := by decide +kernel
theorem dX9_init_41 : decode cX9_init 41 = .ok (.putfield 31, 3) := by decide +kernel
theorem dX9_init_44 : decode cX9_init 44 = .ok (.return_, 1) := by decide +kernel
def pX9_init (g : MT) (h : CT) (this : Nat) (p1 : Nat) : Option (MT × CT) := gq Prod.fst g (tg g this 8 (lt (sR h this 0 (some p1)) fun h2 => (gq Prod.fst (gA g 7 2) (lt (gA g 7 2) fun g3 => (lt (hZ h2 (gN g)) fun h4 => (lt (gN g) fun a5 => (tg g3 a5 7 (bd2 (pX8_init g3 h4 a5 16) fun g9 h10 => (gq Prod.fst g9 (tg g9 this 8 (lt (sR h10 this 1 (some a5)) fun h15 => (gq Prod.fst (gA g9 4 2) (lt (gA g9 4 2) fun g16 => (lt (hZ h15 (gN g9)) fun h17 => (lt (gN g9) fun a18 => (tg g16 a18 4 (bd2 (pX4_init g16 h17 a18) fun g22 h23 => (gq Prod.fst g22 (tg g22 this 8 (lt (sR h23 this 2 (some a18)) fun h28 => (gq Prod.fst (gA g22 4 2) (lt (gA g22 4 2) fun g29 => (lt (hZ h28 (gN g22)) fun h30 => (lt (gN g22) fun a31 => (tg g29 a31 4 (bd2 (pX4_init g29 h30 a31) fun g35 h36 => (gq Prod.fst g35 (tg g35 this 8 (lt (sR h36 this 3 (some a31)) fun h41 => (some (g35, h41)))))))))))))))))))))))))))))))
theorem pX9_init_mono {g g0 : MT} {h h0 : CT} {this : Nat} {p1 : Nat} (hf : pX9_init g h this p1 = some (g0, h0)) : gN g ≤ gN g0 ∧ gU g ≤ gU g0 := by
  unfold pX9_init at hf
  exact (gq_i hf).1
set_option maxRecDepth 10000 in
set_option maxHeartbeats 4000000 in
theorem pX9_init_ok (G : Gx) (dk : Nat) (hK : 2 ≤ dk) {g g0 : MT} {h h0 : CT} {this : Nat} {p1 : Nat} (hf : pX9_init g h this p1 = some (g0, h0)) : Ctr G dk yX9_init cX9_init 2 none [va_rf (some this), va_rf (some p1)] g h none g0 h0 := by
  unfold pX9_init at hf
  replace hf := gq_i hf
  obtain ⟨hm, hf⟩ := hf
  refine Ctr.ofY (lv := [(0, va_rf (some this)), (1, va_rf (some p1))]) (by decide +kernel) (by simp [cat_i, cat_l, cat_d, cat_rf]) rfl hm fun X Z M => ?_
  refine J_aload_n Z.1 0 dX9_init_0 rfl rfl ?_
  refine J_objInit Z.1 dX9_init_1 q_358 q_168 q_169 (yO2 Z (by omega) (by simp [cat_i, cat_l, cat_d, cat_rf])) (yF Z (d := 0) (by omega)) ?_
  refine J_aload_n Z.1 0 dX9_init_4 rfl rfl ?_
  refine J_aload_n Z.1 1 dX9_init_5 rfl rfl ?_
  replace hf := tg_i hf
  obtain ⟨t1, hf⟩ := hf
  refine J_putR Z.1 dX9_init_6 fl_X9_9 (fun _ => ⟨Z.2.2.2.2.2.2.2, _, rfl, rfl⟩) t1 (Or.inl ⟨_, rfl⟩) ?_
  refine J_th (fun h2 eh2 => ?_)
  replace hf := lt_i hf h2 eh2
  refine J_aload_n Z.1 0 dX9_init_9 rfl rfl ?_
  replace hf := gq_i hf
  obtain ⟨n6, hf⟩ := hf
  have M7 := rmA Z M n6
  refine J_new (ci := 6) (r := (RX8, TX8, 2)) Z.1 dX9_init_10 rfl q_359 q_250 q_141 M M7 ?_
  refine J_tg (fun g3 eg3 => ?_)
  rw [← eg3] at M7
  replace hf := lt_i hf g3 eg3
  refine J_th (fun h4 eh4 => ?_)
  replace hf := lt_i hf h4 eh4
  refine J_ta (fun a5 ea5 => ?_)
  replace hf := lt_i hf a5 ea5
  refine J_dup Z.1 dX9_init_13 rfl ?_
  refine J_bipush Z.1 (v := 16) (by decide) dX9_init_14 ?_
  replace hf := tg_i hf
  obtain ⟨t8, hf⟩ := hf
  replace hf := bd2_i hf
  obtain ⟨g9, h10, q11, hf⟩ := hf
  replace hf := gq_i hf
  obtain ⟨n12, hf⟩ := hf
  have M13o := pX8_init_mono q11
  have M13 := rmC Z M7 M13o n12
  refine J_callI (as := [.int 16]) (rest := [va_rf (some a5), va_rf (some this)]) (sy := [va_rf (some a5), va_rf (some this)]) Z.1 dX9_init_16 cw_X9_17 (pX8_init_ok G (dk - 1) (by omega) q11) (yG Z) rfl (by simp [cat_i, cat_l, cat_d, cat_rf]) (yF Z (by omega)) (yO Z (by omega) (by decide)) M13o M7 M13 rfl rfl ?_
  replace hf := tg_i hf
  obtain ⟨t14, hf⟩ := hf
  refine J_putR Z.1 dX9_init_19 fl_X9_20 (fun _ => ⟨Z.2.2.2.2.2.2.2, _, rfl, rfl⟩) t14 (Or.inl ⟨_, rfl⟩) ?_
  refine J_th (fun h15 eh15 => ?_)
  replace hf := lt_i hf h15 eh15
  refine J_aload_n Z.1 0 dX9_init_22 rfl rfl ?_
  replace hf := gq_i hf
  obtain ⟨n19, hf⟩ := hf
  have M20 := rmA Z M13 n19
  refine J_new (ci := 3) (r := (RX4, TX4, 2)) Z.1 dX9_init_23 rfl q_361 q_362 q_146 M13 M20 ?_
  refine J_tg (fun g16 eg16 => ?_)
  rw [← eg16] at M20
  replace hf := lt_i hf g16 eg16
  refine J_th (fun h17 eh17 => ?_)
  replace hf := lt_i hf h17 eh17
  refine J_ta (fun a18 ea18 => ?_)
  replace hf := lt_i hf a18 ea18
  refine J_dup Z.1 dX9_init_26 rfl ?_
  replace hf := tg_i hf
  obtain ⟨t21, hf⟩ := hf
  replace hf := bd2_i hf
  obtain ⟨g22, h23, q24, hf⟩ := hf
  replace hf := gq_i hf
  obtain ⟨n25, hf⟩ := hf
  have M26o := pX4_init_mono q24
  have M26 := rmC Z M20 M26o n25
  refine J_callIN (as := []) (rest := [va_rf (some a18), va_rf (some this)]) (sy := [va_rf (some a18), va_rf (some this)]) Z.1 dX9_init_27 (kn4 Z.1) q_146 q_365 ⟨by decide +kernel, by decide +kernel, by decide +kernel⟩ q_364 rfl (pX4_init_ok G (dk - 1) (by omega) q24) (yG Z) rfl (by simp [cat_i, cat_l, cat_d, cat_rf]) (yF Z (by omega)) (yO Z (by omega) (by decide)) M26o M20 M26 rfl rfl ?_
  replace hf := tg_i hf
  obtain ⟨t27, hf⟩ := hf
  refine J_putR Z.1 dX9_init_30 fl_X9_27 (fun _ => ⟨Z.2.2.2.2.2.2.2, _, rfl, rfl⟩) t27 (Or.inl ⟨_, rfl⟩) ?_
  refine J_th (fun h28 eh28 => ?_)
  replace hf := lt_i hf h28 eh28
  refine J_aload_n Z.1 0 dX9_init_33 rfl rfl ?_
  replace hf := gq_i hf
  obtain ⟨n32, hf⟩ := hf
  have M33 := rmA Z M26 n32
  refine J_new (ci := 3) (r := (RX4, TX4, 2)) Z.1 dX9_init_34 rfl q_361 q_362 q_146 M26 M33 ?_
  refine J_tg (fun g29 eg29 => ?_)
  rw [← eg29] at M33
  replace hf := lt_i hf g29 eg29
  refine J_th (fun h30 eh30 => ?_)
  replace hf := lt_i hf h30 eh30
  refine J_ta (fun a31 ea31 => ?_)
  replace hf := lt_i hf a31 ea31
  refine J_dup Z.1 dX9_init_37 rfl ?_
  replace hf := tg_i hf
  obtain ⟨t34, hf⟩ := hf
  replace hf := bd2_i hf
  obtain ⟨g35, h36, q37, hf⟩ := hf
  replace hf := gq_i hf
  obtain ⟨n38, hf⟩ := hf
  have M39o := pX4_init_mono q37
  have M39 := rmC Z M33 M39o n38
  refine J_callIN (as := []) (rest := [va_rf (some a31), va_rf (some this)]) (sy := [va_rf (some a31), va_rf (some this)]) Z.1 dX9_init_38 (kn4 Z.1) q_146 q_365 ⟨by decide +kernel, by decide +kernel, by decide +kernel⟩ q_364 rfl (pX4_init_ok G (dk - 1) (by omega) q37) (yG Z) rfl (by simp [cat_i, cat_l, cat_d, cat_rf]) (yF Z (by omega)) (yO Z (by omega) (by decide)) M39o M33 M39 rfl rfl ?_
  replace hf := tg_i hf
  obtain ⟨t40, hf⟩ := hf
  refine J_putR Z.1 dX9_init_41 fl_X9_31 (fun _ => ⟨Z.2.2.2.2.2.2.2, _, rfl, rfl⟩) t40 (Or.inl ⟨_, rfl⟩) ?_
  refine J_th (fun h41 eh41 => ?_)
  replace hf := lt_i hf h41 eh41
  cases hf
  exact J_vret Z.1 Z.2.2.2.2.1 dX9_init_44
theorem dX9_beginStrip_0 : decode cX9_beginStrip 0 = .ok (.aload_n 2, 1) := by decide +kernel
theorem dX9_beginStrip_1 : decode cX9_beginStrip 1 = .ok (.getfield 115, 3) := by decide +kernel
theorem dX9_beginStrip_4 : decode cX9_beginStrip 4 = .ok (.ifCond .ne 14, 3) := by decide +kernel
theorem dX9_beginStrip_7 : decode cX9_beginStrip 7 = .ok (.aload_n 2, 1) := by decide +kernel
theorem dX9_beginStrip_8 : decode cX9_beginStrip 8 = .ok (.getfield 68, 3) := by decide +kernel
theorem dX9_beginStrip_11 : decode cX9_beginStrip 11 = .ok (.iload_n 1, 1) := by decide +kernel
theorem dX9_beginStrip_12 : decode cX9_beginStrip 12 = .ok (.iconst 1, 1) := by decide +kernel
theorem dX9_beginStrip_13 : decode cX9_beginStrip 13 = .ok (.iadd, 1) := by decide +kernel
theorem dX9_beginStrip_14 : decode cX9_beginStrip 14 = .ok (.invokestatic 118, 3) := by decide +kernel
theorem dX9_beginStrip_17 : decode cX9_beginStrip 17 = .ok (.ireturn, 1) := by decide +kernel
theorem dX9_beginStrip_18 : decode cX9_beginStrip 18 = .ok (.aload_n 0, 1) := by decide +kernel
theorem dX9_beginStrip_19 : decode cX9_beginStrip 19 = .ok (.aload_n 2, 1) := by decide +kernel
theorem dX9_beginStrip_20 : decode cX9_beginStrip 20 = .ok (.putfield 47, 3) := by decide +kernel
theorem dX9_beginStrip_23 : decode cX9_beginStrip 23 = .ok (.aload_n 0, 1) := by decide +kernel
theorem dX9_beginStrip_24 : decode cX9_beginStrip 24 = .ok (.iload_n 1, 1) := by decide +kernel
theorem dX9_beginStrip_25 : decode cX9_beginStrip 25 = .ok (.putfield 124, 3) := by decide +kernel
theorem dX9_beginStrip_28 : decode cX9_beginStrip 28 = .ok (.aload_n 0, 1) := by decide +kernel
theorem dX9_beginStrip_29 : decode cX9_beginStrip 29 = .ok (.aload_n 0, 1) := by decide +kernel
theorem dX9_beginStrip_30 : decode cX9_beginStrip 30 = .ok (.getfield 34, 3) := by decide +kernel
theorem dX9_beginStrip_33 : decode cX9_beginStrip 33 = .ok (.getfield 77, 3) := by decide +kernel
theorem dX9_beginStrip_36 : decode cX9_beginStrip 36 = .ok (.putfield 127, 3) := by decide +kernel
theorem dX9_beginStrip_39 : decode cX9_beginStrip 39 = .ok (.aload_n 0, 1) := by decide +kernel
theorem dX9_beginStrip_40 : decode cX9_beginStrip 40 = .ok (.iconst 0, 1) := by decide +kernel
theorem dX9_beginStrip_41 : decode cX9_beginStrip 41 = .ok (.putfield 51, 3) := by decide +kernel
theorem dX9_beginStrip_44 : decode cX9_beginStrip 44 = .ok (.aload_n 0, 1) := by decide +kernel
theorem dX9_beginStrip_45 : decode cX9_beginStrip 45 = .ok (.getfield 34, 3) := by decide +kernel
theorem dX9_beginStrip_48 : decode cX9_beginStrip 48 = .ok (.bipush 16, 2) := by decide +kernel
theorem dX9_beginStrip_50 : decode cX9_beginStrip 50 = .ok (.aload_n 2, 1) := by decide +kernel
theorem dX9_beginStrip_51 : decode cX9_beginStrip 51 = .ok (.getfield 115, 3) := by decide +kernel
theorem dX9_beginStrip_54 : decode cX9_beginStrip 54 = .ok (.invokestatic 130, 3) := by decide +kernel
theorem dX9_beginStrip_57 : decode cX9_beginStrip 57 = .ok (.putfield 77, 3) := by decide +kernel
theorem dX9_beginStrip_60 : decode cX9_beginStrip 60 = .ok (.iload_n 1, 1) := by decide +kernel
theorem dX9_beginStrip_61 : decode cX9_beginStrip 61 = .ok (.iconst 1, 1) := by decide +kernel
theorem dX9_beginStrip_62 : decode cX9_beginStrip 62 = .ok (.iadd, 1) := by decide +kernel
theorem dX9_beginStrip_63 : decode cX9_beginStrip 63 = .ok (.ireturn, 1) := by decide +kernel
def pX9_beginStrip (g : MT) (h : CT) (this : Nat) (p1 : Int32) (p2 : Nat) : Option ((Int32) × CT) := tg g this 8 (tg g p2 2 (if (hI h p2 7) = 0 then some ((pJ9_max_7cf53 (hI h p2 9) (p1 + 1)), h) else lt (sR h this 6 (some p2)) fun h3 => (lt (sI h3 this 7 p1) fun h4 => (lt (hR h4 this 4) fun r5 => (nn r5 fun a5 => (tg g a5 3 (lt (sI h4 this 8 (hI h4 a5 5)) fun h7 => (lt (sI h7 this 9 0) fun h8 => (lt (hR h8 this 4) fun r9 => (nn r9 fun a9 => (tg g a9 3 (lt (sI h8 a9 5 (pJ9_min_7cf53 16 (hI h8 p2 7))) fun h11 => (some ((p1 + 1), h11))))))))))))))
set_option maxRecDepth 10000 in
set_option maxHeartbeats 4000000 in
theorem pX9_beginStrip_ok (G : Gx) (dk : Nat) (hK : 1 ≤ dk) {g : MT} {h h0 : CT} {this : Nat} {p1 : Int32} {p2 : Nat} {r0 : Int32} (hf : pX9_beginStrip g h this p1 p2 = some (r0, h0)) : Ctr G dk yX9_beginStrip cX9_beginStrip 3 (some .int) [va_rf (some this), .int p1, va_rf (some p2)] g h (some (.int r0)) g h0 := by
  refine Ctr.ofZ (lv := [(0, va_rf (some this)), (1, .int p1), (2, va_rf (some p2))]) (by decide +kernel) (by simp [cat_i, cat_l, cat_d, cat_rf]) rfl fun X Z => ?_
  unfold pX9_beginStrip at hf
  replace hf := tg_i hf
  obtain ⟨t0, hf⟩ := hf
  refine J_aload_n Z.1 2 dX9_beginStrip_0 rfl rfl ?_
  replace hf := tg_i hf
  obtain ⟨t1, hf⟩ := hf
  refine J_get (v := .int (hI h p2 7)) Z.1 dX9_beginStrip_1 fl_X9_115 t1 rfl ?_
  refine J_if_ne Z.1 18 dX9_beginStrip_4 (by decide) (fun c2 => ?_) (fun c2 => ?_)
  · rw [if_neg c2] at hf
    refine J_aload_n Z.1 0 dX9_beginStrip_18 rfl rfl ?_
    refine J_aload_n Z.1 2 dX9_beginStrip_19 rfl rfl ?_
    refine J_putR Z.1 dX9_beginStrip_20 fl_X9_47 (fun q => by cases q) t0 (Or.inl ⟨_, rfl⟩) ?_
    refine J_th (fun h3 eh3 => ?_)
    replace hf := lt_i hf h3 eh3
    refine J_aload_n Z.1 0 dX9_beginStrip_23 rfl rfl ?_
    refine J_iload_n Z.1 1 dX9_beginStrip_24 rfl rfl ?_
    refine J_putI Z.1 dX9_beginStrip_25 fl_X9_124 (fun q => by cases q) t0 rfl rfl (congrArg Value.int (hI_s _ _ _ _)) ?_
    refine J_th (fun h4 eh4 => ?_)
    replace hf := lt_i hf h4 eh4
    refine J_aload_n Z.1 0 dX9_beginStrip_28 rfl rfl ?_
    refine J_aload_n Z.1 0 dX9_beginStrip_29 rfl rfl ?_
    refine J_get (v := va_rf (hR h4 this 4)) Z.1 dX9_beginStrip_30 fl_X9_34 t0 rfl ?_
    refine J_tr (fun r5 er5 => ?_)
    replace hf := lt_i hf r5 er5
    replace hf := nn_i hf
    obtain ⟨a5, rfl, hf⟩ := hf
    replace hf := tg_i hf
    obtain ⟨t6, hf⟩ := hf
    refine J_get (v := .int (hI h4 a5 5)) Z.1 dX9_beginStrip_33 fl_X9_77 t6 rfl ?_
    refine J_putI Z.1 dX9_beginStrip_36 fl_X9_127 (fun q => by cases q) t0 rfl rfl (congrArg Value.int (hI_s _ _ _ _)) ?_
    refine J_th (fun h7 eh7 => ?_)
    replace hf := lt_i hf h7 eh7
    refine J_aload_n Z.1 0 dX9_beginStrip_39 rfl rfl ?_
    refine J_iconst Z.1 (v := 0) (by decide) dX9_beginStrip_40 ?_
    refine J_putI Z.1 dX9_beginStrip_41 fl_X9_51 (fun q => by cases q) t0 rfl rfl (congrArg Value.int (hI_s _ _ _ _)) ?_
    refine J_th (fun h8 eh8 => ?_)
    replace hf := lt_i hf h8 eh8
    refine J_aload_n Z.1 0 dX9_beginStrip_44 rfl rfl ?_
    refine J_get (v := va_rf (hR h8 this 4)) Z.1 dX9_beginStrip_45 fl_X9_34 t0 rfl ?_
    refine J_tr (fun r9 er9 => ?_)
    replace hf := lt_i hf r9 er9
    refine J_bipush Z.1 (v := 16) (by decide) dX9_beginStrip_48 ?_
    refine J_aload_n Z.1 2 dX9_beginStrip_50 rfl rfl ?_
    refine J_get (v := .int (hI h8 p2 7)) Z.1 dX9_beginStrip_51 fl_X9_115 t1 rfl ?_
    refine J_callS (as := [.int 16, .int (hI h8 p2 7)]) (rest := [va_rf r9]) (sy := [.int (pJ9_min_7cf53 16 (hI h8 p2 7)), va_rf r9]) Z.1 dX9_beginStrip_54 cw_X9_130 (pJ9_min_7cf53_ok G (dk - 1) (by omega) g h8 16 (hI h8 p2 7)) (zG Z) rfl (by simp [cat_i, cat_l, cat_d, cat_rf]) (zF Z (by omega)) (zO Z (by omega) (by decide)) (zM _) Z.2.1 Z.2.1 rfl rfl ?_
    replace hf := nn_i hf
    obtain ⟨a9, rfl, hf⟩ := hf
    replace hf := tg_i hf
    obtain ⟨t10, hf⟩ := hf
    refine J_putI Z.1 dX9_beginStrip_57 fl_X9_77 (fun q => by cases q) t10 rfl rfl (congrArg Value.int (hI_s _ _ _ _)) ?_
    refine J_th (fun h11 eh11 => ?_)
    replace hf := lt_i hf h11 eh11
    refine J_iload_n Z.1 1 dX9_beginStrip_60 rfl rfl ?_
    refine J_iconst Z.1 (v := 1) (by decide) dX9_beginStrip_61 ?_
    refine J_iadd Z.1 dX9_beginStrip_62 ?_
    cases hf
    exact J_iret Z.1 Z.2.2.2.2.2 dX9_beginStrip_63
  · rw [if_pos c2] at hf
    refine J_aload_n Z.1 2 dX9_beginStrip_7 rfl rfl ?_
    refine J_get (v := .int (hI h p2 9)) Z.1 dX9_beginStrip_8 fl_X9_68 t1 rfl ?_
    refine J_iload_n Z.1 1 dX9_beginStrip_11 rfl rfl ?_
    refine J_iconst Z.1 (v := 1) (by decide) dX9_beginStrip_12 ?_
    refine J_iadd Z.1 dX9_beginStrip_13 ?_
    refine J_callS (as := [.int (hI h p2 9), .int (p1 + 1)]) (rest := []) (sy := [.int (pJ9_max_7cf53 (hI h p2 9) (p1 + 1))]) Z.1 dX9_beginStrip_14 cw_X9_118 (pJ9_max_7cf53_ok G (dk - 1) (by omega) g h (hI h p2 9) (p1 + 1)) (zG Z) rfl (by decide) (zF Z (by omega)) (zO Z (by omega) (by decide)) (zM _) Z.2.1 Z.2.1 rfl rfl ?_
    cases hf
    exact J_iret Z.1 Z.2.2.2.2.2 dX9_beginStrip_17
theorem dX9_endRound_0 : decode cX9_endRound 0 = .ok (.aload_n 0, 1) := by decide +kernel
theorem dX9_endRound_1 : decode cX9_endRound 1 = .ok (.getfield 38, 3) := by decide +kernel
theorem dX9_endRound_4 : decode cX9_endRound 4 = .ok (.invokevirtual 133, 3) := by decide +kernel
theorem dX9_endRound_7 : decode cX9_endRound 7 = .ok (.aload_n 0, 1) := by decide +kernel
theorem dX9_endRound_8 : decode cX9_endRound 8 = .ok (.dup, 1) := by decide +kernel
theorem dX9_endRound_9 : decode cX9_endRound 9 = .ok (.getfield 51, 3) := by decide +kernel
theorem dX9_endRound_12 : decode cX9_endRound 12 = .ok (.bipush 16, 2) := by decide +kernel
theorem dX9_endRound_14 : decode cX9_endRound 14 = .ok (.iadd, 1) := by decide +kernel
theorem dX9_endRound_15 : decode cX9_endRound 15 = .ok (.putfield 51, 3) := by decide +kernel
theorem dX9_endRound_18 : decode cX9_endRound 18 = .ok (.aload_n 0, 1) := by decide +kernel
theorem dX9_endRound_19 : decode cX9_endRound 19 = .ok (.getfield 51, 3) := by decide +kernel
theorem dX9_endRound_22 : decode cX9_endRound 22 = .ok (.aload_n 0, 1) := by decide +kernel
theorem dX9_endRound_23 : decode cX9_endRound 23 = .ok (.getfield 47, 3) := by decide +kernel
theorem dX9_endRound_26 : decode cX9_endRound 26 = .ok (.getfield 115, 3) := by decide +kernel
theorem dX9_endRound_29 : decode cX9_endRound 29 = .ok (.if_icmp .ge 34, 3) := by decide +kernel
theorem dX9_endRound_32 : decode cX9_endRound 32 = .ok (.aload_n 0, 1) := by decide +kernel
theorem dX9_endRound_33 : decode cX9_endRound 33 = .ok (.getfield 34, 3) := by decide +kernel
theorem dX9_endRound_36 : decode cX9_endRound 36 = .ok (.bipush 16, 2) := by decide +kernel
theorem dX9_endRound_38 : decode cX9_endRound 38 = .ok (.aload_n 0, 1) := by decide +kernel
theorem dX9_endRound_39 : decode cX9_endRound 39 = .ok (.getfield 47, 3) := by decide +kernel
theorem dX9_endRound_42 : decode cX9_endRound 42 = .ok (.getfield 115, 3) := by decide +kernel
theorem dX9_endRound_45 : decode cX9_endRound 45 = .ok (.aload_n 0, 1) := by decide +kernel
theorem dX9_endRound_46 : decode cX9_endRound 46 = .ok (.getfield 51, 3) := by decide +kernel
theorem dX9_endRound_49 : decode cX9_endRound 49 = .ok (.isub, 1) := by decide +kernel
theorem dX9_endRound_50 : decode cX9_endRound 50 = .ok (.invokestatic 130, 3) := by decide +kernel
theorem dX9_endRound_53 : decode cX9_endRound 53 = .ok (.putfield 77, 3) := by decide +kernel
theorem dX9_endRound_56 : decode cX9_endRound 56 = .ok (.aload_n 0, 1) := by decide +kernel
theorem dX9_endRound_57 : decode cX9_endRound 57 = .ok (.getfield 124, 3) := by decide +kernel
theorem dX9_endRound_60 : decode cX9_endRound 60 = .ok (.iconst 1, 1) := by decide +kernel
theorem dX9_endRound_61 : decode cX9_endRound 61 = .ok (.iadd, 1) := by decide +kernel
theorem dX9_endRound_62 : decode cX9_endRound 62 = .ok (.ireturn, 1) := by decide +kernel
theorem dX9_endRound_63 : decode cX9_endRound 63 = .ok (.aload_n 0, 1) := by decide +kernel
theorem dX9_endRound_64 : decode cX9_endRound 64 = .ok (.getfield 47, 3) := by decide +kernel
theorem dX9_endRound_67 : decode cX9_endRound 67 = .ok (.getfield 68, 3) := by decide +kernel
theorem dX9_endRound_70 : decode cX9_endRound 70 = .ok (.istore_n 1, 1) := by decide +kernel
theorem dX9_endRound_71 : decode cX9_endRound 71 = .ok (.aload_n 0, 1) := by decide +kernel
theorem dX9_endRound_72 : decode cX9_endRound 72 = .ok (.iconst 0, 1) := by decide +kernel
theorem dX9_endRound_73 : decode cX9_endRound 73 = .ok (.putfield 51, 3) := by decide +kernel
theorem dX9_endRound_76 : decode cX9_endRound 76 = .ok (.aload_n 0, 1) := by decide +kernel
theorem dX9_endRound_77 : decode cX9_endRound 77 = .ok (.getfield 34, 3) := by decide +kernel
theorem dX9_endRound_80 : decode cX9_endRound 80 = .ok (.aload_n 0, 1) := by decide +kernel
theorem dX9_endRound_81 : decode cX9_endRound 81 = .ok (.getfield 127, 3) := by decide +kernel
theorem dX9_endRound_84 : decode cX9_endRound 84 = .ok (.putfield 77, 3) := by decide +kernel
theorem dX9_endRound_87 : decode cX9_endRound 87 = .ok (.aload_n 0, 1) := by decide +kernel
theorem dX9_endRound_88 : decode cX9_endRound 88 = .ok (.aconst_null, 1) := by decide +kernel
theorem dX9_endRound_89 : decode cX9_endRound 89 = .ok (.putfield 47, 3) := by decide +kernel
theorem dX9_endRound_92 : decode cX9_endRound 92 = .ok (.iload_n 1, 1) := by decide +kernel
theorem dX9_endRound_93 : decode cX9_endRound 93 = .ok (.ireturn, 1) := by decide +kernel
def pX9_endRound (g : MT) (h : CT) (this : Nat) : Option ((Int32) × CT) := tg g this 8 (lt (hR h this 5) fun r1 => (nn r1 fun a1 => (tg g a1 9 (bd (pX10_beginEnd g h a1) fun h3 => (lt (sI h3 this 9 ((hI h3 this 9) + 16)) fun h5 => (lt (hR h5 this 6) fun r6 => (nn r6 fun a6 => (tg g a6 2 (if (hI h5 a6 7) ≤ (hI h5 this 9) then lt (hR h5 this 6) fun r9 => (nn r9 fun a9 => (tg g a9 2 (lt (hI h5 a9 9) fun x11 => (lt (sI h5 this 9 0) fun h12 => (lt (hR h12 this 4) fun r13 => (nn r13 fun a13 => (tg g a13 3 (lt (sI h12 a13 5 (hI h12 this 8)) fun h15 => (lt (sR h15 this 6 none) fun h16 => (some (x11, h16))))))))))) else lt (hR h5 this 4) fun r17 => (lt (hR h5 this 6) fun r18 => (nn r18 fun a18 => (tg g a18 2 (nn r17 fun a17 => (tg g a17 3 (lt (sI h5 a17 5 (pJ9_min_7cf53 16 ((hI h5 a18 7) - (hI h5 this 9)))) fun h21 => (some (((hI h21 this 7) + 1), h21)))))))))))))))))
set_option maxRecDepth 10000 in
set_option maxHeartbeats 4000000 in
theorem pX9_endRound_ok (G : Gx) (dk : Nat) (hK : 2 ≤ dk) {g : MT} {h h0 : CT} {this : Nat} {r0 : Int32} (hf : pX9_endRound g h this = some (r0, h0)) : Ctr G dk yX9_endRound cX9_endRound 2 (some .int) [va_rf (some this)] g h (some (.int r0)) g h0 := by
  refine Ctr.ofZ (lv := [(0, va_rf (some this))]) (by decide +kernel) (by simp [cat_i, cat_l, cat_d, cat_rf]) rfl fun X Z => ?_
  unfold pX9_endRound at hf
  replace hf := tg_i hf
  obtain ⟨t0, hf⟩ := hf
  refine J_aload_n Z.1 0 dX9_endRound_0 rfl rfl ?_
  refine J_get (v := va_rf (hR h this 5)) Z.1 dX9_endRound_1 fl_X9_38 t0 rfl ?_
  refine J_tr (fun r1 er1 => ?_)
  replace hf := lt_i hf r1 er1
  replace hf := nn_i hf
  obtain ⟨a1, rfl, hf⟩ := hf
  replace hf := tg_i hf
  obtain ⟨t2, hf⟩ := hf
  replace hf := bd_i hf
  obtain ⟨h3, q4, hf⟩ := hf
  refine J_callV (ci := 8) (as := []) (rest := []) (sy := []) Z.1 dX9_endRound_4 cw_X9_133 (pX10_beginEnd_ok G (dk - 1) (by omega) q4) rfl rfl t2 (zG Z) rfl (by decide) (zF Z (by omega)) (zO Z (by omega) (by decide)) (zM _) Z.2.1 Z.2.1 rfl rfl ?_
  refine J_aload_n Z.1 0 dX9_endRound_7 rfl rfl ?_
  refine J_dup Z.1 dX9_endRound_8 rfl ?_
  refine J_get (v := .int (hI h3 this 9)) Z.1 dX9_endRound_9 fl_X9_51 t0 rfl ?_
  refine J_bipush Z.1 (v := 16) (by decide) dX9_endRound_12 ?_
  refine J_iadd Z.1 dX9_endRound_14 ?_
  refine J_putI Z.1 dX9_endRound_15 fl_X9_51 (fun q => by cases q) t0 rfl rfl (congrArg Value.int (hI_s _ _ _ _)) ?_
  refine J_th (fun h5 eh5 => ?_)
  replace hf := lt_i hf h5 eh5
  refine J_aload_n Z.1 0 dX9_endRound_18 rfl rfl ?_
  refine J_get (v := .int (hI h5 this 9)) Z.1 dX9_endRound_19 fl_X9_51 t0 rfl ?_
  refine J_aload_n Z.1 0 dX9_endRound_22 rfl rfl ?_
  refine J_get (v := va_rf (hR h5 this 6)) Z.1 dX9_endRound_23 fl_X9_47 t0 rfl ?_
  refine J_tr (fun r6 er6 => ?_)
  replace hf := lt_i hf r6 er6
  replace hf := nn_i hf
  obtain ⟨a6, rfl, hf⟩ := hf
  replace hf := tg_i hf
  obtain ⟨t7, hf⟩ := hf
  refine J_get (v := .int (hI h5 a6 7)) Z.1 dX9_endRound_26 fl_X9_115 t7 rfl ?_
  refine J_icmp_ge Z.1 63 dX9_endRound_29 (by decide) (fun c8 => ?_) (fun c8 => ?_)
  · rw [if_pos c8] at hf
    refine J_aload_n Z.1 0 dX9_endRound_63 rfl rfl ?_
    refine J_get (v := va_rf (hR h5 this 6)) Z.1 dX9_endRound_64 fl_X9_47 t0 rfl ?_
    refine J_tr (fun r9 er9 => ?_)
    replace hf := lt_i hf r9 er9
    replace hf := nn_i hf
    obtain ⟨a9, rfl, hf⟩ := hf
    replace hf := tg_i hf
    obtain ⟨t10, hf⟩ := hf
    refine J_get (v := .int (hI h5 a9 9)) Z.1 dX9_endRound_67 fl_X9_68 t10 rfl ?_
    refine J_ti (fun x11 ex11 => ?_)
    replace hf := lt_i hf x11 ex11
    refine J_istore_n Z.1 (lv2 := [(1, .int x11), (0, va_rf (some this))]) dX9_endRound_70 rfl (zL Z (by decide)) rfl ?_
    refine J_aload_n Z.1 1 dX9_endRound_71 rfl rfl ?_
    refine J_iconst Z.1 (v := 0) (by decide) dX9_endRound_72 ?_
    refine J_putI Z.1 dX9_endRound_73 fl_X9_51 (fun q => by cases q) t0 rfl rfl (congrArg Value.int (hI_s _ _ _ _)) ?_
    refine J_th (fun h12 eh12 => ?_)
    replace hf := lt_i hf h12 eh12
    refine J_aload_n Z.1 1 dX9_endRound_76 rfl rfl ?_
    refine J_get (v := va_rf (hR h12 this 4)) Z.1 dX9_endRound_77 fl_X9_34 t0 rfl ?_
    refine J_tr (fun r13 er13 => ?_)
    replace hf := lt_i hf r13 er13
    refine J_aload_n Z.1 1 dX9_endRound_80 rfl rfl ?_
    refine J_get (v := .int (hI h12 this 8)) Z.1 dX9_endRound_81 fl_X9_127 t0 rfl ?_
    replace hf := nn_i hf
    obtain ⟨a13, rfl, hf⟩ := hf
    replace hf := tg_i hf
    obtain ⟨t14, hf⟩ := hf
    refine J_putI Z.1 dX9_endRound_84 fl_X9_77 (fun q => by cases q) t14 rfl rfl (congrArg Value.int (hI_s _ _ _ _)) ?_
    refine J_th (fun h15 eh15 => ?_)
    replace hf := lt_i hf h15 eh15
    refine J_aload_n Z.1 1 dX9_endRound_87 rfl rfl ?_
    refine J_null Z.1 dX9_endRound_88 ?_
    refine J_putR Z.1 dX9_endRound_89 fl_X9_47 (fun q => by cases q) t0 (Or.inl ⟨_, rfl⟩) ?_
    refine J_th (fun h16 eh16 => ?_)
    replace hf := lt_i hf h16 eh16
    refine J_iload_n Z.1 0 dX9_endRound_92 rfl rfl ?_
    cases hf
    exact J_iret Z.1 Z.2.2.2.2.2 dX9_endRound_93
  · rw [if_neg c8] at hf
    refine J_aload_n Z.1 0 dX9_endRound_32 rfl rfl ?_
    refine J_get (v := va_rf (hR h5 this 4)) Z.1 dX9_endRound_33 fl_X9_34 t0 rfl ?_
    refine J_tr (fun r17 er17 => ?_)
    replace hf := lt_i hf r17 er17
    refine J_bipush Z.1 (v := 16) (by decide) dX9_endRound_36 ?_
    refine J_aload_n Z.1 0 dX9_endRound_38 rfl rfl ?_
    refine J_get (v := va_rf (hR h5 this 6)) Z.1 dX9_endRound_39 fl_X9_47 t0 rfl ?_
    refine J_tr (fun r18 er18 => ?_)
    replace hf := lt_i hf r18 er18
    replace hf := nn_i hf
    obtain ⟨a18, rfl, hf⟩ := hf
    replace hf := tg_i hf
    obtain ⟨t19, hf⟩ := hf
    refine J_get (v := .int (hI h5 a18 7)) Z.1 dX9_endRound_42 fl_X9_115 t19 rfl ?_
    refine J_aload_n Z.1 0 dX9_endRound_45 rfl rfl ?_
    refine J_get (v := .int (hI h5 this 9)) Z.1 dX9_endRound_46 fl_X9_51 t0 rfl ?_
    refine J_isub Z.1 dX9_endRound_49 ?_
    refine J_callS (as := [.int 16, .int ((hI h5 a18 7) - (hI h5 this 9))]) (rest := [va_rf r17]) (sy := [.int (pJ9_min_7cf53 16 ((hI h5 a18 7) - (hI h5 this 9))), va_rf r17]) Z.1 dX9_endRound_50 cw_X9_130 (pJ9_min_7cf53_ok G (dk - 1) (by omega) g h5 16 ((hI h5 a18 7) - (hI h5 this 9))) (zG Z) rfl (by simp [cat_i, cat_l, cat_d, cat_rf]) (zF Z (by omega)) (zO Z (by omega) (by decide)) (zM _) Z.2.1 Z.2.1 rfl rfl ?_
    replace hf := nn_i hf
    obtain ⟨a17, rfl, hf⟩ := hf
    replace hf := tg_i hf
    obtain ⟨t20, hf⟩ := hf
    refine J_putI Z.1 dX9_endRound_53 fl_X9_77 (fun q => by cases q) t20 rfl rfl (congrArg Value.int (hI_s _ _ _ _)) ?_
    refine J_th (fun h21 eh21 => ?_)
    replace hf := lt_i hf h21 eh21
    refine J_aload_n Z.1 0 dX9_endRound_56 rfl rfl ?_
    refine J_get (v := .int (hI h21 this 7)) Z.1 dX9_endRound_57 fl_X9_124 t0 rfl ?_
    refine J_iconst Z.1 (v := 1) (by decide) dX9_endRound_60 ?_
    refine J_iadd Z.1 dX9_endRound_61 ?_
    cases hf
    exact J_iret Z.1 Z.2.2.2.2.2 dX9_endRound_62
theorem dX9_trap_0 : decode cX9_trap 0 = .ok (.aload_n 0, 1) := by decide +kernel
theorem dX9_trap_1 : decode cX9_trap 1 = .ok (.getfield 38, 3) := by decide +kernel
theorem dX9_trap_4 : decode cX9_trap 4 = .ok (.iload_n 1, 1) := by decide +kernel
theorem dX9_trap_5 : decode cX9_trap 5 = .ok (.putfield 136, 3) := by decide +kernel
theorem dX9_trap_8 : decode cX9_trap 8 = .ok (.aload_n 0, 1) := by decide +kernel
theorem dX9_trap_9 : decode cX9_trap 9 = .ok (.getfield 38, 3) := by decide +kernel
theorem dX9_trap_12 : decode cX9_trap 12 = .ok (.iload_n 2, 1) := by decide +kernel
theorem dX9_trap_13 : decode cX9_trap 13 = .ok (.putfield 139, 3) := by decide +kernel
theorem dX9_trap_16 : decode cX9_trap 16 = .ok (.aload_n 0, 1) := by decide +kernel
theorem dX9_trap_17 : decode cX9_trap 17 = .ok (.getfield 38, 3) := by decide +kernel
theorem dX9_trap_20 : decode cX9_trap 20 = .ok (.iload_n 3, 1) := by decide +kernel
theorem dX9_trap_21 : decode cX9_trap 21 = .ok (.putfield 142, 3) := by decide +kernel
theorem dX9_trap_24 : decode cX9_trap 24 = .ok (.iconst 0, 1) := by decide +kernel
theorem dX9_trap_25 : decode cX9_trap 25 = .ok (.ireturn, 1) := by decide +kernel
def pX9_trap (g : MT) (h : CT) (this : Nat) (p1 : Int32) (p2 : Int32) (p3 : Int32) : Option ((Int32) × CT) := tg g this 8 (lt (hR h this 5) fun r1 => (nn r1 fun a1 => (tg g a1 9 (lt (sI h a1 3 p1) fun h3 => (lt (hR h3 this 5) fun r4 => (nn r4 fun a4 => (tg g a4 9 (lt (sI h3 a4 4 p2) fun h6 => (lt (hR h6 this 5) fun r7 => (nn r7 fun a7 => (tg g a7 9 (lt (sI h6 a7 5 p3) fun h9 => (some (0, h9))))))))))))))
set_option maxRecDepth 10000 in
set_option maxHeartbeats 4000000 in
theorem pX9_trap_ok (G : Gx) (dk : Nat) (hK : 0 ≤ dk) {g : MT} {h h0 : CT} {this : Nat} {p1 : Int32} {p2 : Int32} {p3 : Int32} {r0 : Int32} (hf : pX9_trap g h this p1 p2 p3 = some (r0, h0)) : Ctr G dk yX9_trap cX9_trap 4 (some .boolean) [va_rf (some this), .int p1, .int p2, .int p3] g h (some (.int r0)) g h0 := by
  refine Ctr.ofZ (lv := [(0, va_rf (some this)), (1, .int p1), (2, .int p2), (3, .int p3)]) (by decide +kernel) (by simp [cat_i, cat_l, cat_d, cat_rf]) rfl fun X Z => ?_
  unfold pX9_trap at hf
  replace hf := tg_i hf
  obtain ⟨t0, hf⟩ := hf
  refine J_aload_n Z.1 0 dX9_trap_0 rfl rfl ?_
  refine J_get (v := va_rf (hR h this 5)) Z.1 dX9_trap_1 fl_X9_38 t0 rfl ?_
  refine J_tr (fun r1 er1 => ?_)
  replace hf := lt_i hf r1 er1
  refine J_iload_n Z.1 1 dX9_trap_4 rfl rfl ?_
  replace hf := nn_i hf
  obtain ⟨a1, rfl, hf⟩ := hf
  replace hf := tg_i hf
  obtain ⟨t2, hf⟩ := hf
  refine J_putI Z.1 dX9_trap_5 fl_X9_136 (fun q => by cases q) t2 rfl rfl (congrArg Value.int (hI_s _ _ _ _)) ?_
  refine J_th (fun h3 eh3 => ?_)
  replace hf := lt_i hf h3 eh3
  refine J_aload_n Z.1 0 dX9_trap_8 rfl rfl ?_
  refine J_get (v := va_rf (hR h3 this 5)) Z.1 dX9_trap_9 fl_X9_38 t0 rfl ?_
  refine J_tr (fun r4 er4 => ?_)
  replace hf := lt_i hf r4 er4
  refine J_iload_n Z.1 2 dX9_trap_12 rfl rfl ?_
  replace hf := nn_i hf
  obtain ⟨a4, rfl, hf⟩ := hf
  replace hf := tg_i hf
  obtain ⟨t5, hf⟩ := hf
  refine J_putI Z.1 dX9_trap_13 fl_X9_139 (fun q => by cases q) t5 rfl rfl (congrArg Value.int (hI_s _ _ _ _)) ?_
  refine J_th (fun h6 eh6 => ?_)
  replace hf := lt_i hf h6 eh6
  refine J_aload_n Z.1 0 dX9_trap_16 rfl rfl ?_
  refine J_get (v := va_rf (hR h6 this 5)) Z.1 dX9_trap_17 fl_X9_38 t0 rfl ?_
  refine J_tr (fun r7 er7 => ?_)
  replace hf := lt_i hf r7 er7
  refine J_iload_n Z.1 3 dX9_trap_20 rfl rfl ?_
  replace hf := nn_i hf
  obtain ⟨a7, rfl, hf⟩ := hf
  replace hf := tg_i hf
  obtain ⟨t8, hf⟩ := hf
  refine J_putI Z.1 dX9_trap_21 fl_X9_142 (fun q => by cases q) t8 rfl rfl (congrArg Value.int (hI_s _ _ _ _)) ?_
  refine J_th (fun h9 eh9 => ?_)
  replace hf := lt_i hf h9 eh9
  refine J_iconst Z.1 (v := 0) (by decide) dX9_trap_24 ?_
  cases hf
  exact J_zret Z.1 Z.2.2.2.2.2 (z_n (Or.inl rfl)) dX9_trap_25
theorem dX9_halve_0 : decode cX9_halve 0 = .ok (.aload_n 0, 1) := by decide +kernel
theorem dX9_halve_1 : decode cX9_halve 1 = .ok (.getfield 20, 3) := by decide +kernel
theorem dX9_halve_4 : decode cX9_halve 4 = .ok (.aload_n 1, 1) := by decide +kernel
theorem dX9_halve_5 : decode cX9_halve 5 = .ok (.invokevirtual 214, 3) := by decide +kernel
theorem dX9_halve_8 : decode cX9_halve 8 = .ok (.iload_n 2, 1) := by decide +kernel
theorem dX9_halve_9 : decode cX9_halve 9 = .ok (.istore 5, 2) := by decide +kernel
theorem dX9_halve_11 : decode cX9_halve 11 = .ok (.iload 5, 2) := by decide +kernel
theorem dX9_halve_13 : decode cX9_halve 13 = .ok (.iconst 1, 1) := by decide +kernel
theorem dX9_halve_14 : decode cX9_halve 14 = .ok (.if_icmp .le 104, 3) := by decide +kernel
theorem dX9_halve_17 : decode cX9_halve 17 = .ok (.iload 5, 2) := by decide +kernel
theorem dX9_halve_19 : decode cX9_halve 19 = .ok (.iconst 1, 1) := by decide +kernel
theorem dX9_halve_20 : decode cX9_halve 20 = .ok (.iadd, 1) := by decide +kernel
theorem dX9_halve_21 : decode cX9_halve 21 = .ok (.iconst 2, 1) := by decide +kernel
theorem dX9_halve_22 : decode cX9_halve 22 = .ok (.idiv, 1) := by decide +kernel
theorem dX9_halve_23 : decode cX9_halve 23 = .ok (.istore 6, 2) := by decide +kernel
theorem dX9_halve_25 : decode cX9_halve 25 = .ok (.iconst 0, 1) := by decide +kernel
theorem dX9_halve_26 : decode cX9_halve 26 = .ok (.istore 7, 2) := by decide +kernel
theorem dX9_halve_28 : decode cX9_halve 28 = .ok (.iload 7, 2) := by decide +kernel
theorem dX9_halve_30 : decode cX9_halve 30 = .ok (.iload 5, 2) := by decide +kernel
theorem dX9_halve_32 : decode cX9_halve 32 = .ok (.iload 6, 2) := by decide +kernel
theorem dX9_halve_34 : decode cX9_halve 34 = .ok (.isub, 1) := by decide +kernel
theorem dX9_halve_35 : decode cX9_halve 35 = .ok (.if_icmp .ge 72, 3) := by decide +kernel
theorem dX9_halve_38 : decode cX9_halve 38 = .ok (.aload_n 0, 1) := by decide +kernel
theorem dX9_halve_39 : decode cX9_halve 39 = .ok (.getfield 20, 3) := by decide +kernel
theorem dX9_halve_42 : decode cX9_halve 42 = .ok (.iload 7, 2) := by decide +kernel
theorem dX9_halve_44 : decode cX9_halve 44 = .ok (.aload 4, 2) := by decide +kernel
theorem dX9_halve_46 : decode cX9_halve 46 = .ok (.invokevirtual 218, 3) := by decide +kernel
theorem dX9_halve_49 : decode cX9_halve 49 = .ok (.aload_n 0, 1) := by decide +kernel
theorem dX9_halve_50 : decode cX9_halve 50 = .ok (.getfield 20, 3) := by decide +kernel
theorem dX9_halve_53 : decode cX9_halve 53 = .ok (.iload 7, 2) := by decide +kernel
theorem dX9_halve_55 : decode cX9_halve 55 = .ok (.iload 6, 2) := by decide +kernel
theorem dX9_halve_57 : decode cX9_halve 57 = .ok (.iadd, 1) := by decide +kernel
theorem dX9_halve_58 : decode cX9_halve 58 = .ok (.aload_n 0, 1) := by decide +kernel
theorem dX9_halve_59 : decode cX9_halve 59 = .ok (.getfield 31, 3) := by decide +kernel
theorem dX9_halve_62 : decode cX9_halve 62 = .ok (.invokevirtual 218, 3) := by decide +kernel
theorem dX9_halve_65 : decode cX9_halve 65 = .ok (.iload_n 3, 1) := by decide +kernel
theorem dX9_halve_66 : decode cX9_halve 66 = .ok (.ifCond .eq 15, 3) := by decide +kernel
theorem dX9_halve_69 : decode cX9_halve 69 = .ok (.aload 4, 2) := by decide +kernel
theorem dX9_halve_71 : decode cX9_halve 71 = .ok (.aload_n 0, 1) := by decide +kernel
theorem dX9_halve_72 : decode cX9_halve 72 = .ok (.getfield 31, 3) := by decide +kernel
theorem dX9_halve_75 : decode cX9_halve 75 = .ok (.invokevirtual 221, 3) := by decide +kernel
theorem dX9_halve_78 : decode cX9_halve 78 = .ok (.goto 12, 3) := by decide +kernel
theorem dX9_halve_81 : decode cX9_halve 81 = .ok (.aload 4, 2) := by decide +kernel
theorem dX9_halve_83 : decode cX9_halve 83 = .ok (.aload_n 0, 1) := by decide +kernel
theorem dX9_halve_84 : decode cX9_halve 84 = .ok (.getfield 31, 3) := by decide +kernel
theorem dX9_halve_87 : decode cX9_halve 87 = .ok (.invokevirtual 225, 3) := by decide +kernel
theorem dX9_halve_90 : decode cX9_halve 90 = .ok (.aload_n 0, 1) := by decide +kernel
theorem dX9_halve_91 : decode cX9_halve 91 = .ok (.getfield 20, 3) := by decide +kernel
theorem dX9_halve_94 : decode cX9_halve 94 = .ok (.iload 7, 2) := by decide +kernel
theorem dX9_halve_96 : decode cX9_halve 96 = .ok (.aload 4, 2) := by decide +kernel
theorem dX9_halve_98 : decode cX9_halve 98 = .ok (.invokevirtual 179, 3) := by decide +kernel
theorem dX9_halve_101 : decode cX9_halve 101 = .ok (.iinc 7 1, 3) := by decide +kernel
theorem dX9_halve_104 : decode cX9_halve 104 = .ok (.goto (-76), 3) := by decide +kernel
theorem dX9_halve_107 : decode cX9_halve 107 = .ok (.iload 5, 2) := by decide +kernel
theorem dX9_halve_109 : decode cX9_halve 109 = .ok (.iconst 1, 1) := by decide +kernel
theorem dX9_halve_110 : decode cX9_halve 110 = .ok (.iadd, 1) := by decide +kernel
theorem dX9_halve_111 : decode cX9_halve 111 = .ok (.iconst 2, 1) := by decide +kernel
theorem dX9_halve_112 : decode cX9_halve 112 = .ok (.idiv, 1) := by decide +kernel
theorem dX9_halve_113 : decode cX9_halve 113 = .ok (.istore 5, 2) := by decide +kernel
theorem dX9_halve_115 : decode cX9_halve 115 = .ok (.goto (-104), 3) := by decide +kernel
theorem dX9_halve_118 : decode cX9_halve 118 = .ok (.iload_n 2, 1) := by decide +kernel
theorem dX9_halve_119 : decode cX9_halve 119 = .ok (.ifCond .le 16, 3) := by decide +kernel
theorem dX9_halve_122 : decode cX9_halve 122 = .ok (.aload_n 0, 1) := by decide +kernel
theorem dX9_halve_123 : decode cX9_halve 123 = .ok (.getfield 20, 3) := by decide +kernel
theorem dX9_halve_126 : decode cX9_halve 126 = .ok (.iconst 0, 1) := by decide +kernel
theorem dX9_halve_127 : decode cX9_halve 127 = .ok (.aload 4, 2) := by decide +kernel
theorem dX9_halve_129 : decode cX9_halve 129 = .ok (.invokevirtual 218, 3) := by decide +kernel
theorem dX9_halve_132 : decode cX9_halve 132 = .ok (.goto 17, 3) := by decide +kernel
theorem dX9_halve_135 : decode cX9_halve 135 = .ok (.aload 4, 2) := by decide +kernel
theorem dX9_halve_137 : decode cX9_halve 137 = .ok (.iload_n 3, 1) := by decide +kernel
theorem dX9_halve_138 : decode cX9_halve 138 = .ok (.ifCond .eq 7, 3) := by decide +kernel
theorem dX9_halve_141 : decode cX9_halve 141 = .ok (.iconst 4, 1) := by decide +kernel
theorem dX9_halve_142 : decode cX9_halve 142 = .ok (.goto 4, 3) := by decide +kernel
theorem dX9_halve_145 : decode cX9_halve 145 = .ok (.iconst 1, 1) := by decide +kernel
theorem dX9_halve_146 : decode cX9_halve 146 = .ok (.invokevirtual 228, 3) := by decide +kernel
theorem dX9_halve_149 : decode cX9_halve 149 = .ok (.return_, 1) := by decide +kernel
def pX9_halve_b146 (g : MT) (this : Nat) (p1 : Nat) (p2 : Int32) (p3 : Int32) (p4 : Nat) (s0 : Nat) (s1 : Int32) (h : CT) : Option CT := tg g s0 4 (bd (pX4_setKind g h s0 s1) fun h2 => (some h2))
set_option maxRecDepth 10000 in
set_option maxHeartbeats 4000000 in
theorem pX9_halve_b146_ok {X : Cx} {G : Gx} {dk : Nat} {g : MT} {h0 : CT} {this : Nat} {p1 : Nat} {p2 : Int32} {p3 : Int32} {p4 : Nat} (Z : Zx X G cX9_halve RX9 8 dk none none g h0) (hK : 2 ≤ dk) (t0 : gT g this = 8) (s0 : Nat) (s1 : Int32) (h : CT) (hf : pX9_halve_b146 g this p1 p2 p3 p4 s0 s1 h = some h0) : J X g h 146 [] [.int s1, va_rf (some s0)] := by
  unfold pX9_halve_b146 at hf
  replace hf := tg_i hf
  obtain ⟨t1, hf⟩ := hf
  replace hf := bd_i hf
  obtain ⟨h2, q3, hf⟩ := hf
  refine J_callV (ci := 3) (as := [.int s1]) (rest := []) (sy := []) Z.1 dX9_halve_146 cw_X9_228 (pX4_setKind_ok G (dk - 1) (by omega) q3) rfl rfl t1 (zG Z) rfl (by decide) (zF Z (by omega)) (zO Z (by omega) (by decide)) (zM _) Z.2.1 Z.2.1 rfl rfl ?_
  cases hf
  exact J_vret Z.1 Z.2.2.2.2.2 dX9_halve_149
def pX9_halve_b90 (g : MT) (this : Nat) (p1 : Nat) (p2 : Int32) (p3 : Int32) (p4 : Nat) (k11 : Int32 → CT → Option CT) (k28 : Int32 → Int32 → Int32 → CT → Option CT) (l5 : Int32) (l6 : Int32) (l7 : Int32) (h : CT) : Option CT := lt (hR h this 1) fun r1 => (nn r1 fun a1 => (tg g a1 7 (bd (pX8_keep g h a1 l7 p4) fun h3 => (lt (l7 + 1) fun x5 => (k28 l5 l6 x5 h3)))))
set_option maxRecDepth 10000 in
set_option maxHeartbeats 4000000 in
theorem pX9_halve_b90_ok {X : Cx} {G : Gx} {dk : Nat} {g : MT} {h0 : CT} {this : Nat} {p1 : Nat} {p2 : Int32} {p3 : Int32} {p4 : Nat} {k11 : Int32 → CT → Option CT} {k28 : Int32 → Int32 → Int32 → CT → Option CT} (Z : Zx X G cX9_halve RX9 8 dk none none g h0) (hK : 2 ≤ dk) (t0 : gT g this = 8) (hk11 : ∀ (l5 : Int32) (h : CT), k11 l5 h = some h0 → J X g h 11 [(0, va_rf (some this)), (2, .int p2), (3, .int p3), (4, va_rf (some p4)), (5, .int l5)] []) (hk28 : ∀ (l5 : Int32) (l6 : Int32) (l7 : Int32) (h : CT), k28 l5 l6 l7 h = some h0 → J X g h 28 [(0, va_rf (some this)), (2, .int p2), (3, .int p3), (4, va_rf (some p4)), (5, .int l5), (6, .int l6), (7, .int l7)] []) (l5 : Int32) (l6 : Int32) (l7 : Int32) (h : CT) (hf : pX9_halve_b90 g this p1 p2 p3 p4 k11 k28 l5 l6 l7 h = some h0) : J X g h 90 [(0, va_rf (some this)), (2, .int p2), (3, .int p3), (4, va_rf (some p4)), (5, .int l5), (6, .int l6), (7, .int l7)] [] := by
  unfold pX9_halve_b90 at hf
  refine J_aload_n Z.1 0 dX9_halve_90 rfl rfl ?_
  refine J_get (v := va_rf (hR h this 1)) Z.1 dX9_halve_91 fl_X9_20 t0 rfl ?_
  refine J_tr (fun r1 er1 => ?_)
  replace hf := lt_i hf r1 er1
  refine J_iload Z.1 6 dX9_halve_94 rfl ?_
  refine J_aload Z.1 3 dX9_halve_96 rfl ?_
  replace hf := nn_i hf
  obtain ⟨a1, rfl, hf⟩ := hf
  replace hf := tg_i hf
  obtain ⟨t2, hf⟩ := hf
  replace hf := bd_i hf
  obtain ⟨h3, q4, hf⟩ := hf
  refine J_callV (ci := 6) (as := [.int l7, va_rf (some p4)]) (rest := []) (sy := []) Z.1 dX9_halve_98 cw_X9_179 (pX8_keep_ok G (dk - 1) (by omega) q4) rfl rfl t2 (zG Z) rfl (by decide) (zF Z (by omega)) (zO Z (by omega) (by decide)) (zM _) Z.2.1 Z.2.1 rfl rfl ?_
  refine J_iinc Z.1 (v := 1) (lv2 := [(7, .int (l7 + 1)), (0, va_rf (some this)), (2, .int p2), (3, .int p3), (4, va_rf (some p4)), (5, .int l5), (6, .int l6)]) 6 dX9_halve_101 rfl (by decide) (zL Z (by decide)) rfl ?_
  obtain ⟨x5, ex5⟩ : ∃ z, z = (l7 + 1) := ⟨_, rfl⟩
  replace hf := lt_i hf x5 ex5
  rw [← ex5]
  refine J_goto Z.1 28 dX9_halve_104 (by decide) ?_
  refine J_lv [1, 2, 3, 4, 5, 6, 0] rfl ?_
  exact hk28 _ _ _ _ hf
def pX9_halve_b28 (g : MT) (this : Nat) (p1 : Nat) (p2 : Int32) (p3 : Int32) (p4 : Nat) (k11 : Int32 → CT → Option CT) (k28 : Int32 → Int32 → Int32 → CT → Option CT) (l5 : Int32) (l6 : Int32) (l7 : Int32) (h : CT) : Option CT := if (l5 - l6) ≤ l7 then lt ((l5 + 1) / 2) fun x2 => (k11 x2 h) else lt (hR h this 1) fun r3 => (nn r3 fun a3 => (tg g a3 7 (bd (pX8_fetch g h a3 l7 p4) fun h5 => (lt (hR h5 this 1) fun r7 => (lt (hR h5 this 3) fun r8 => (nn r7 fun a7 => (tg g a7 7 (nn r8 fun a8 => (bd (pX8_fetch g h5 a7 (l7 + l6) a8) fun h10 => (if p3 = 0 then lt (hR h10 this 3) fun r13 => (tg g p4 4 (nn r13 fun a13 => (bd (pX4_plus g h10 p4 a13) fun h15 => (pX9_halve_b90 g this p1 p2 p3 p4 k11 k28 l5 l6 l7 h15)))) else lt (hR h10 this 3) fun r17 => (tg g p4 4 (nn r17 fun a17 => (bd (pX4_most g h10 p4 a17) fun h19 => (pX9_halve_b90 g this p1 p2 p3 p4 k11 k28 l5 l6 l7 h19))))))))))))))
set_option maxRecDepth 10000 in
set_option maxHeartbeats 4000000 in
theorem pX9_halve_b28_ok {X : Cx} {G : Gx} {dk : Nat} {g : MT} {h0 : CT} {this : Nat} {p1 : Nat} {p2 : Int32} {p3 : Int32} {p4 : Nat} {k11 : Int32 → CT → Option CT} {k28 : Int32 → Int32 → Int32 → CT → Option CT} (Z : Zx X G cX9_halve RX9 8 dk none none g h0) (hK : 2 ≤ dk) (t0 : gT g this = 8) (hk11 : ∀ (l5 : Int32) (h : CT), k11 l5 h = some h0 → J X g h 11 [(0, va_rf (some this)), (2, .int p2), (3, .int p3), (4, va_rf (some p4)), (5, .int l5)] []) (hk28 : ∀ (l5 : Int32) (l6 : Int32) (l7 : Int32) (h : CT), k28 l5 l6 l7 h = some h0 → J X g h 28 [(0, va_rf (some this)), (2, .int p2), (3, .int p3), (4, va_rf (some p4)), (5, .int l5), (6, .int l6), (7, .int l7)] []) (l5 : Int32) (l6 : Int32) (l7 : Int32) (h : CT) (hf : pX9_halve_b28 g this p1 p2 p3 p4 k11 k28 l5 l6 l7 h = some h0) : J X g h 28 [(0, va_rf (some this)), (2, .int p2), (3, .int p3), (4, va_rf (some p4)), (5, .int l5), (6, .int l6), (7, .int l7)] [] := by
  unfold pX9_halve_b28 at hf
  refine J_iload Z.1 6 dX9_halve_28 rfl ?_
  refine J_iload Z.1 4 dX9_halve_30 rfl ?_
  refine J_iload Z.1 5 dX9_halve_32 rfl ?_
  refine J_isub Z.1 dX9_halve_34 ?_
  refine J_icmp_ge Z.1 107 dX9_halve_35 (by decide) (fun c1 => ?_) (fun c1 => ?_)
  · rw [if_pos c1] at hf
    refine J_iload Z.1 4 dX9_halve_107 rfl ?_
    refine J_iconst Z.1 (v := 1) (by decide) dX9_halve_109 ?_
    refine J_iadd Z.1 dX9_halve_110 ?_
    refine J_iconst Z.1 (v := 2) (by decide) dX9_halve_111 ?_
    refine J_idiv Z.1 (by decide) dX9_halve_112 ?_
    refine J_ti (fun x2 ex2 => ?_)
    replace hf := lt_i hf x2 ex2
    refine J_istore Z.1 (lv2 := [(5, .int x2), (0, va_rf (some this)), (2, .int p2), (3, .int p3), (4, va_rf (some p4)), (6, .int l6), (7, .int l7)]) dX9_halve_113 (zL Z (by decide)) rfl ?_
    refine J_goto Z.1 11 dX9_halve_115 (by decide) ?_
    refine J_lv [1, 2, 3, 4, 0] rfl ?_
    exact hk11 _ _ hf
  · rw [if_neg c1] at hf
    refine J_aload_n Z.1 0 dX9_halve_38 rfl rfl ?_
    refine J_get (v := va_rf (hR h this 1)) Z.1 dX9_halve_39 fl_X9_20 t0 rfl ?_
    refine J_tr (fun r3 er3 => ?_)
    replace hf := lt_i hf r3 er3
    refine J_iload Z.1 6 dX9_halve_42 rfl ?_
    refine J_aload Z.1 3 dX9_halve_44 rfl ?_
    replace hf := nn_i hf
    obtain ⟨a3, rfl, hf⟩ := hf
    replace hf := tg_i hf
    obtain ⟨t4, hf⟩ := hf
    replace hf := bd_i hf
    obtain ⟨h5, q6, hf⟩ := hf
    refine J_callV (ci := 6) (as := [.int l7, va_rf (some p4)]) (rest := []) (sy := []) Z.1 dX9_halve_46 cw_X9_218 (pX8_fetch_ok G (dk - 1) (by omega) q6) rfl rfl t4 (zG Z) rfl (by decide) (zF Z (by omega)) (zO Z (by omega) (by decide)) (zM _) Z.2.1 Z.2.1 rfl rfl ?_
    refine J_aload_n Z.1 0 dX9_halve_49 rfl rfl ?_
    refine J_get (v := va_rf (hR h5 this 1)) Z.1 dX9_halve_50 fl_X9_20 t0 rfl ?_
    refine J_tr (fun r7 er7 => ?_)
    replace hf := lt_i hf r7 er7
    refine J_iload Z.1 6 dX9_halve_53 rfl ?_
    refine J_iload Z.1 5 dX9_halve_55 rfl ?_
    refine J_iadd Z.1 dX9_halve_57 ?_
    refine J_aload_n Z.1 0 dX9_halve_58 rfl rfl ?_
    refine J_get (v := va_rf (hR h5 this 3)) Z.1 dX9_halve_59 fl_X9_31 t0 rfl ?_
    refine J_tr (fun r8 er8 => ?_)
    replace hf := lt_i hf r8 er8
    replace hf := nn_i hf
    obtain ⟨a7, rfl, hf⟩ := hf
    replace hf := tg_i hf
    obtain ⟨t9, hf⟩ := hf
    replace hf := nn_i hf
    obtain ⟨a8, rfl, hf⟩ := hf
    replace hf := bd_i hf
    obtain ⟨h10, q11, hf⟩ := hf
    refine J_callV (ci := 6) (as := [.int (l7 + l6), va_rf (some a8)]) (rest := []) (sy := []) Z.1 dX9_halve_62 cw_X9_218 (pX8_fetch_ok G (dk - 1) (by omega) q11) rfl rfl t9 (zG Z) rfl (by decide) (zF Z (by omega)) (zO Z (by omega) (by decide)) (zM _) Z.2.1 Z.2.1 rfl rfl ?_
    refine J_iload_n Z.1 2 dX9_halve_65 rfl rfl ?_
    refine J_if_eq Z.1 81 dX9_halve_66 (by decide) (fun c12 => ?_) (fun c12 => ?_)
    · rw [if_pos c12] at hf
      refine J_aload Z.1 3 dX9_halve_81 rfl ?_
      refine J_aload_n Z.1 0 dX9_halve_83 rfl rfl ?_
      refine J_get (v := va_rf (hR h10 this 3)) Z.1 dX9_halve_84 fl_X9_31 t0 rfl ?_
      refine J_tr (fun r13 er13 => ?_)
      replace hf := lt_i hf r13 er13
      replace hf := tg_i hf
      obtain ⟨t14, hf⟩ := hf
      replace hf := nn_i hf
      obtain ⟨a13, rfl, hf⟩ := hf
      replace hf := bd_i hf
      obtain ⟨h15, q16, hf⟩ := hf
      refine J_callV (ci := 3) (as := [va_rf (some a13)]) (rest := []) (sy := []) Z.1 dX9_halve_87 cw_X9_225 (pX4_plus_ok G (dk - 1) (by omega) q16) rfl rfl t14 (zG Z) rfl (by decide) (zF Z (by omega)) (zO Z (by omega) (by decide)) (zM _) Z.2.1 Z.2.1 rfl rfl ?_
      exact pX9_halve_b90_ok Z hK t0 hk11 hk28 _ _ _ _ hf
    · rw [if_neg c12] at hf
      refine J_aload Z.1 3 dX9_halve_69 rfl ?_
      refine J_aload_n Z.1 0 dX9_halve_71 rfl rfl ?_
      refine J_get (v := va_rf (hR h10 this 3)) Z.1 dX9_halve_72 fl_X9_31 t0 rfl ?_
      refine J_tr (fun r17 er17 => ?_)
      replace hf := lt_i hf r17 er17
      replace hf := tg_i hf
      obtain ⟨t18, hf⟩ := hf
      replace hf := nn_i hf
      obtain ⟨a17, rfl, hf⟩ := hf
      replace hf := bd_i hf
      obtain ⟨h19, q20, hf⟩ := hf
      refine J_callV (ci := 3) (as := [va_rf (some a17)]) (rest := []) (sy := []) Z.1 dX9_halve_75 cw_X9_221 (pX4_most_ok G (dk - 1) (by omega) q20) rfl rfl t18 (zG Z) rfl (by decide) (zF Z (by omega)) (zO Z (by omega) (by decide)) (zM _) Z.2.1 Z.2.1 rfl rfl ?_
      refine J_goto Z.1 90 dX9_halve_78 (by decide) ?_
      exact pX9_halve_b90_ok Z hK t0 hk11 hk28 _ _ _ _ hf
def pX9_halve_l28 (g : MT) (this : Nat) (p1 : Nat) (p2 : Int32) (p3 : Int32) (p4 : Nat) (k11 : Int32 → CT → Option CT) : Nat → Int32 → Int32 → Int32 → CT → Option CT
  | 0, _, _, _, _ => none
  | n + 1, l5, l6, l7, h => pX9_halve_b28 g this p1 p2 p3 p4 k11 (pX9_halve_l28 g this p1 p2 p3 p4 k11 n) l5 l6 l7 h
theorem pX9_halve_l28_ok {X : Cx} {G : Gx} {dk : Nat} {g : MT} {h0 : CT} {this : Nat} {p1 : Nat} {p2 : Int32} {p3 : Int32} {p4 : Nat} {k11 : Int32 → CT → Option CT} (Z : Zx X G cX9_halve RX9 8 dk none none g h0) (hK : 2 ≤ dk) (t0 : gT g this = 8) (hk11 : ∀ (l5 : Int32) (h : CT), k11 l5 h = some h0 → J X g h 11 [(0, va_rf (some this)), (2, .int p2), (3, .int p3), (4, va_rf (some p4)), (5, .int l5)] []) : ∀ (n : Nat) (l5 : Int32) (l6 : Int32) (l7 : Int32) (h : CT), pX9_halve_l28 g this p1 p2 p3 p4 k11 n l5 l6 l7 h = some h0 → J X g h 28 [(0, va_rf (some this)), (2, .int p2), (3, .int p3), (4, va_rf (some p4)), (5, .int l5), (6, .int l6), (7, .int l7)] [] := by
  intro n
  induction n with
  | zero => intro l5 l6 l7 h hf; cases hf
  | succ n ih => intro l5 l6 l7 h hf; exact pX9_halve_b28_ok Z hK t0 hk11 ih l5 l6 l7 h hf
def pX9_halve_b11 (g : MT) (this : Nat) (p1 : Nat) (p2 : Int32) (p3 : Int32) (p4 : Nat) (k11 : Int32 → CT → Option CT) (l5 : Int32) (h : CT) : Option CT := if l5 ≤ 1 then if p2 ≤ 0 then if p3 = 0 then pX9_halve_b146 g this p1 p2 p3 p4  p4 1 h else pX9_halve_b146 g this p1 p2 p3 p4  p4 4 h else lt (hR h this 1) fun r4 => (nn r4 fun a4 => (tg g a4 7 (bd (pX8_fetch g h a4 0 p4) fun h6 => (some h6)))) else lt ((l5 + 1) / 2) fun x8 => (pX9_halve_l28 g this p1 p2 p3 p4 k11 FUEL l5 x8 0 h)
set_option maxRecDepth 10000 in
set_option maxHeartbeats 4000000 in
theorem pX9_halve_b11_ok {X : Cx} {G : Gx} {dk : Nat} {g : MT} {h0 : CT} {this : Nat} {p1 : Nat} {p2 : Int32} {p3 : Int32} {p4 : Nat} {k11 : Int32 → CT → Option CT} (Z : Zx X G cX9_halve RX9 8 dk none none g h0) (hK : 2 ≤ dk) (t0 : gT g this = 8) (hk11 : ∀ (l5 : Int32) (h : CT), k11 l5 h = some h0 → J X g h 11 [(0, va_rf (some this)), (2, .int p2), (3, .int p3), (4, va_rf (some p4)), (5, .int l5)] []) (l5 : Int32) (h : CT) (hf : pX9_halve_b11 g this p1 p2 p3 p4 k11 l5 h = some h0) : J X g h 11 [(0, va_rf (some this)), (2, .int p2), (3, .int p3), (4, va_rf (some p4)), (5, .int l5)] [] := by
  unfold pX9_halve_b11 at hf
  refine J_iload Z.1 4 dX9_halve_11 rfl ?_
  refine J_iconst Z.1 (v := 1) (by decide) dX9_halve_13 ?_
  refine J_icmp_le Z.1 118 dX9_halve_14 (by decide) (fun c1 => ?_) (fun c1 => ?_)
  · rw [if_pos c1] at hf
    refine J_iload_n Z.1 1 dX9_halve_118 rfl rfl ?_
    refine J_if_le Z.1 135 dX9_halve_119 (by decide) (fun c2 => ?_) (fun c2 => ?_)
    · rw [if_pos c2] at hf
      refine J_aload Z.1 3 dX9_halve_135 rfl ?_
      refine J_iload_n Z.1 2 dX9_halve_137 rfl rfl ?_
      refine J_if_eq Z.1 145 dX9_halve_138 (by decide) (fun c3 => ?_) (fun c3 => ?_)
      · rw [if_pos c3] at hf
        refine J_iconst Z.1 (v := 1) (by decide) dX9_halve_145 ?_
        refine J_lv [] rfl ?_
        exact pX9_halve_b146_ok Z hK t0  _ _ _ hf
      · rw [if_neg c3] at hf
        refine J_iconst Z.1 (v := 4) (by decide) dX9_halve_141 ?_
        refine J_goto Z.1 146 dX9_halve_142 (by decide) ?_
        refine J_lv [] rfl ?_
        exact pX9_halve_b146_ok Z hK t0  _ _ _ hf
    · rw [if_neg c2] at hf
      refine J_aload_n Z.1 0 dX9_halve_122 rfl rfl ?_
      refine J_get (v := va_rf (hR h this 1)) Z.1 dX9_halve_123 fl_X9_20 t0 rfl ?_
      refine J_tr (fun r4 er4 => ?_)
      replace hf := lt_i hf r4 er4
      refine J_iconst Z.1 (v := 0) (by decide) dX9_halve_126 ?_
      refine J_aload Z.1 3 dX9_halve_127 rfl ?_
      replace hf := nn_i hf
      obtain ⟨a4, rfl, hf⟩ := hf
      replace hf := tg_i hf
      obtain ⟨t5, hf⟩ := hf
      replace hf := bd_i hf
      obtain ⟨h6, q7, hf⟩ := hf
      refine J_callV (ci := 6) (as := [.int 0, va_rf (some p4)]) (rest := []) (sy := []) Z.1 dX9_halve_129 cw_X9_218 (pX8_fetch_ok G (dk - 1) (by omega) q7) rfl rfl t5 (zG Z) rfl (by decide) (zF Z (by omega)) (zO Z (by omega) (by decide)) (zM _) Z.2.1 Z.2.1 rfl rfl ?_
      refine J_goto Z.1 149 dX9_halve_132 (by decide) ?_
      cases hf
      exact J_vret Z.1 Z.2.2.2.2.2 dX9_halve_149
  · rw [if_neg c1] at hf
    refine J_iload Z.1 4 dX9_halve_17 rfl ?_
    refine J_iconst Z.1 (v := 1) (by decide) dX9_halve_19 ?_
    refine J_iadd Z.1 dX9_halve_20 ?_
    refine J_iconst Z.1 (v := 2) (by decide) dX9_halve_21 ?_
    refine J_idiv Z.1 (by decide) dX9_halve_22 ?_
    refine J_ti (fun x8 ex8 => ?_)
    replace hf := lt_i hf x8 ex8
    refine J_istore Z.1 (lv2 := [(6, .int x8), (0, va_rf (some this)), (2, .int p2), (3, .int p3), (4, va_rf (some p4)), (5, .int l5)]) dX9_halve_23 (zL Z (by decide)) rfl ?_
    refine J_iconst Z.1 (v := 0) (by decide) dX9_halve_25 ?_
    refine J_istore Z.1 (lv2 := [(7, .int 0), (6, .int x8), (0, va_rf (some this)), (2, .int p2), (3, .int p3), (4, va_rf (some p4)), (5, .int l5)]) dX9_halve_26 (zL Z (by decide)) rfl ?_
    refine J_lv [2, 3, 4, 5, 6, 1, 0] rfl ?_
    exact pX9_halve_l28_ok Z hK t0 hk11 FUEL _ _ _ _ hf
def pX9_halve_l11 (g : MT) (this : Nat) (p1 : Nat) (p2 : Int32) (p3 : Int32) (p4 : Nat) : Nat → Int32 → CT → Option CT
  | 0, _, _ => none
  | n + 1, l5, h => pX9_halve_b11 g this p1 p2 p3 p4 (pX9_halve_l11 g this p1 p2 p3 p4 n) l5 h
theorem pX9_halve_l11_ok {X : Cx} {G : Gx} {dk : Nat} {g : MT} {h0 : CT} {this : Nat} {p1 : Nat} {p2 : Int32} {p3 : Int32} {p4 : Nat} (Z : Zx X G cX9_halve RX9 8 dk none none g h0) (hK : 2 ≤ dk) (t0 : gT g this = 8) : ∀ (n : Nat) (l5 : Int32) (h : CT), pX9_halve_l11 g this p1 p2 p3 p4 n l5 h = some h0 → J X g h 11 [(0, va_rf (some this)), (2, .int p2), (3, .int p3), (4, va_rf (some p4)), (5, .int l5)] [] := by
  intro n
  induction n with
  | zero => intro l5 h hf; cases hf
  | succ n ih => intro l5 h hf; exact pX9_halve_b11_ok Z hK t0 ih l5 h hf
def pX9_halve (g : MT) (h : CT) (this : Nat) (p1 : Nat) (p2 : Int32) (p3 : Int32) (p4 : Nat) : Option CT := tg g this 8 (lt (hR h this 1) fun r1 => (nn r1 fun a1 => (tg g a1 7 (bd (pX8_copyFrom g h a1 p1) fun h3 => (pX9_halve_l11 g this p1 p2 p3 p4  FUEL p2 h3)))))
set_option maxRecDepth 10000 in
set_option maxHeartbeats 4000000 in
theorem pX9_halve_ok (G : Gx) (dk : Nat) (hK : 2 ≤ dk) {g : MT} {h h0 : CT} {this : Nat} {p1 : Nat} {p2 : Int32} {p3 : Int32} {p4 : Nat} (hf : pX9_halve g h this p1 p2 p3 p4 = some h0) : Ctr G dk yX9_halve cX9_halve 8 none [va_rf (some this), va_rf (some p1), .int p2, .int p3, va_rf (some p4)] g h none g h0 := by
  refine Ctr.ofZ (lv := [(0, va_rf (some this)), (1, va_rf (some p1)), (2, .int p2), (3, .int p3), (4, va_rf (some p4))]) (by decide +kernel) (by simp [cat_i, cat_l, cat_d, cat_rf]) rfl fun X Z => ?_
  unfold pX9_halve at hf
  replace hf := tg_i hf
  obtain ⟨t0, hf⟩ := hf
  refine J_aload_n Z.1 0 dX9_halve_0 rfl rfl ?_
  refine J_get (v := va_rf (hR h this 1)) Z.1 dX9_halve_1 fl_X9_20 t0 rfl ?_
  refine J_tr (fun r1 er1 => ?_)
  replace hf := lt_i hf r1 er1
  refine J_aload_n Z.1 1 dX9_halve_4 rfl rfl ?_
  replace hf := nn_i hf
  obtain ⟨a1, rfl, hf⟩ := hf
  replace hf := tg_i hf
  obtain ⟨t2, hf⟩ := hf
  replace hf := bd_i hf
  obtain ⟨h3, q4, hf⟩ := hf
  refine J_callV (ci := 6) (as := [va_rf (some p1)]) (rest := []) (sy := []) Z.1 dX9_halve_5 cw_X9_214 (pX8_copyFrom_ok G (dk - 1) (by omega) q4) rfl rfl t2 (zG Z) rfl (by decide) (zF Z (by omega)) (zO Z (by omega) (by decide)) (zM _) Z.2.1 Z.2.1 rfl rfl ?_
  refine J_iload_n Z.1 2 dX9_halve_8 rfl rfl ?_
  refine J_istore Z.1 (lv2 := [(5, .int p2), (0, va_rf (some this)), (1, va_rf (some p1)), (2, .int p2), (3, .int p3), (4, va_rf (some p4))]) dX9_halve_9 (zL Z (by decide)) rfl ?_
  refine J_lv [1, 3, 4, 5, 0] rfl ?_
  exact pX9_halve_l11_ok Z hK t0  FUEL _ _ hf
theorem dX9_addUp_0 : decode cX9_addUp 0 = .ok (.aload 4, 2) := by decide +kernel
theorem dX9_addUp_2 : decode cX9_addUp 2 = .ok (.iconst 1, 1) := by decide +kernel
theorem dX9_addUp_3 : decode cX9_addUp 3 = .ok (.invokevirtual 228, 3) := by decide +kernel
theorem dX9_addUp_6 : decode cX9_addUp 6 = .ok (.iload_n 2, 1) := by decide +kernel
theorem dX9_addUp_7 : decode cX9_addUp 7 = .ok (.ifCond .le 20, 3) := by decide +kernel
theorem dX9_addUp_10 : decode cX9_addUp 10 = .ok (.aload_n 1, 1) := by decide +kernel
theorem dX9_addUp_11 : decode cX9_addUp 11 = .ok (.iload_n 3, 1) := by decide +kernel
theorem dX9_addUp_12 : decode cX9_addUp 12 = .ok (.ifCond .eq 9, 3) := by decide +kernel
theorem dX9_addUp_15 : decode cX9_addUp 15 = .ok (.iload_n 2, 1) := by decide +kernel
theorem dX9_addUp_16 : decode cX9_addUp 16 = .ok (.iconst 1, 1) := by decide +kernel
theorem dX9_addUp_17 : decode cX9_addUp 17 = .ok (.isub, 1) := by decide +kernel
theorem dX9_addUp_18 : decode cX9_addUp 18 = .ok (.goto 4, 3) := by decide +kernel
theorem dX9_addUp_21 : decode cX9_addUp 21 = .ok (.iconst 0, 1) := by decide +kernel
theorem dX9_addUp_22 : decode cX9_addUp 22 = .ok (.aload 4, 2) := by decide +kernel
theorem dX9_addUp_24 : decode cX9_addUp 24 = .ok (.invokevirtual 218, 3) := by decide +kernel
theorem dX9_addUp_27 : decode cX9_addUp 27 = .ok (.iconst 1, 1) := by decide +kernel
theorem dX9_addUp_28 : decode cX9_addUp 28 = .ok (.istore 5, 2) := by decide +kernel
theorem dX9_addUp_30 : decode cX9_addUp 30 = .ok (.iload 5, 2) := by decide +kernel
theorem dX9_addUp_32 : decode cX9_addUp 32 = .ok (.iload_n 2, 1) := by decide +kernel
theorem dX9_addUp_33 : decode cX9_addUp 33 = .ok (.if_icmp .ge 41, 3) := by decide +kernel
theorem dX9_addUp_36 : decode cX9_addUp 36 = .ok (.aload_n 1, 1) := by decide +kernel
theorem dX9_addUp_37 : decode cX9_addUp 37 = .ok (.iload_n 3, 1) := by decide +kernel
theorem dX9_addUp_38 : decode cX9_addUp 38 = .ok (.ifCond .eq 12, 3) := by decide +kernel
theorem dX9_addUp_41 : decode cX9_addUp 41 = .ok (.iload_n 2, 1) := by decide +kernel
theorem dX9_addUp_42 : decode cX9_addUp 42 = .ok (.iconst 1, 1) := by decide +kernel
theorem dX9_addUp_43 : decode cX9_addUp 43 = .ok (.isub, 1) := by decide +kernel
theorem dX9_addUp_44 : decode cX9_addUp 44 = .ok (.iload 5, 2) := by decide +kernel
theorem dX9_addUp_46 : decode cX9_addUp 46 = .ok (.isub, 1) := by decide +kernel
theorem dX9_addUp_47 : decode cX9_addUp 47 = .ok (.goto 5, 3) := by decide +kernel
theorem dX9_addUp_50 : decode cX9_addUp 50 = .ok (.iload 5, 2) := by decide +kernel
theorem dX9_addUp_52 : decode cX9_addUp 52 = .ok (.aload_n 0, 1) := by decide +kernel
theorem dX9_addUp_53 : decode cX9_addUp 53 = .ok (.getfield 31, 3) := by decide +kernel
theorem dX9_addUp_56 : decode cX9_addUp 56 = .ok (.invokevirtual 218, 3) := by decide +kernel
theorem dX9_addUp_59 : decode cX9_addUp 59 = .ok (.aload 4, 2) := by decide +kernel
theorem dX9_addUp_61 : decode cX9_addUp 61 = .ok (.aload_n 0, 1) := by decide +kernel
theorem dX9_addUp_62 : decode cX9_addUp 62 = .ok (.getfield 31, 3) := by decide +kernel
theorem dX9_addUp_65 : decode cX9_addUp 65 = .ok (.invokevirtual 225, 3) := by decide +kernel
theorem dX9_addUp_68 : decode cX9_addUp 68 = .ok (.iinc 5 1, 3) := by decide +kernel
theorem dX9_addUp_71 : decode cX9_addUp 71 = .ok (.goto (-41), 3) := by decide +kernel
theorem dX9_addUp_74 : decode cX9_addUp 74 = .ok (.return_, 1) := by decide +kernel
def pX9_addUp_b52 (g : MT) (this : Nat) (p1 : Nat) (p2 : Int32) (p3 : Int32) (p4 : Nat) (k30 : Int32 → CT → Option CT) (l5 : Int32) (s0 : Nat) (s1 : Int32) (h : CT) : Option CT := lt (hR h this 3) fun r1 => (tg g s0 7 (nn r1 fun a1 => (bd (pX8_fetch g h s0 s1 a1) fun h3 => (lt (hR h3 this 3) fun r5 => (tg g p4 4 (nn r5 fun a5 => (bd (pX4_plus g h3 p4 a5) fun h7 => (lt (l5 + 1) fun x9 => (k30 x9 h7)))))))))
set_option maxRecDepth 10000 in
set_option maxHeartbeats 4000000 in
theorem pX9_addUp_b52_ok {X : Cx} {G : Gx} {dk : Nat} {g : MT} {h0 : CT} {this : Nat} {p1 : Nat} {p2 : Int32} {p3 : Int32} {p4 : Nat} {k30 : Int32 → CT → Option CT} (Z : Zx X G cX9_addUp RX9 6 dk none none g h0) (hK : 2 ≤ dk) (t0 : gT g this = 8) (hk30 : ∀ (l5 : Int32) (h : CT), k30 l5 h = some h0 → J X g h 30 [(0, va_rf (some this)), (1, va_rf (some p1)), (2, .int p2), (3, .int p3), (4, va_rf (some p4)), (5, .int l5)] []) (l5 : Int32) (s0 : Nat) (s1 : Int32) (h : CT) (hf : pX9_addUp_b52 g this p1 p2 p3 p4 k30 l5 s0 s1 h = some h0) : J X g h 52 [(0, va_rf (some this)), (1, va_rf (some p1)), (2, .int p2), (3, .int p3), (4, va_rf (some p4)), (5, .int l5)] [.int s1, va_rf (some s0)] := by
  unfold pX9_addUp_b52 at hf
  refine J_aload_n Z.1 0 dX9_addUp_52 rfl rfl ?_
  refine J_get (v := va_rf (hR h this 3)) Z.1 dX9_addUp_53 fl_X9_31 t0 rfl ?_
  refine J_tr (fun r1 er1 => ?_)
  replace hf := lt_i hf r1 er1
  replace hf := tg_i hf
  obtain ⟨t2, hf⟩ := hf
  replace hf := nn_i hf
  obtain ⟨a1, rfl, hf⟩ := hf
  replace hf := bd_i hf
  obtain ⟨h3, q4, hf⟩ := hf
  refine J_callV (ci := 6) (as := [.int s1, va_rf (some a1)]) (rest := []) (sy := []) Z.1 dX9_addUp_56 cw_X9_218 (pX8_fetch_ok G (dk - 1) (by omega) q4) rfl rfl t2 (zG Z) rfl (by decide) (zF Z (by omega)) (zO Z (by omega) (by decide)) (zM _) Z.2.1 Z.2.1 rfl rfl ?_
  refine J_aload Z.1 4 dX9_addUp_59 rfl ?_
  refine J_aload_n Z.1 0 dX9_addUp_61 rfl rfl ?_
  refine J_get (v := va_rf (hR h3 this 3)) Z.1 dX9_addUp_62 fl_X9_31 t0 rfl ?_
  refine J_tr (fun r5 er5 => ?_)
  replace hf := lt_i hf r5 er5
  replace hf := tg_i hf
  obtain ⟨t6, hf⟩ := hf
  replace hf := nn_i hf
  obtain ⟨a5, rfl, hf⟩ := hf
  replace hf := bd_i hf
  obtain ⟨h7, q8, hf⟩ := hf
  refine J_callV (ci := 3) (as := [va_rf (some a5)]) (rest := []) (sy := []) Z.1 dX9_addUp_65 cw_X9_225 (pX4_plus_ok G (dk - 1) (by omega) q8) rfl rfl t6 (zG Z) rfl (by decide) (zF Z (by omega)) (zO Z (by omega) (by decide)) (zM _) Z.2.1 Z.2.1 rfl rfl ?_
  refine J_iinc Z.1 (v := 1) (lv2 := [(5, .int (l5 + 1)), (0, va_rf (some this)), (1, va_rf (some p1)), (2, .int p2), (3, .int p3), (4, va_rf (some p4))]) 5 dX9_addUp_68 rfl (by decide) (zL Z (by decide)) rfl ?_
  obtain ⟨x9, ex9⟩ : ∃ z, z = (l5 + 1) := ⟨_, rfl⟩
  replace hf := lt_i hf x9 ex9
  rw [← ex9]
  refine J_goto Z.1 30 dX9_addUp_71 (by decide) ?_
  refine J_lv [1, 2, 3, 4, 5, 0] rfl ?_
  exact hk30 _ _ hf
def pX9_addUp_b30 (g : MT) (this : Nat) (p1 : Nat) (p2 : Int32) (p3 : Int32) (p4 : Nat) (k30 : Int32 → CT → Option CT) (l5 : Int32) (h : CT) : Option CT := if p2 ≤ l5 then some h else if p3 = 0 then pX9_addUp_b52 g this p1 p2 p3 p4 k30 l5 p1 l5 h else pX9_addUp_b52 g this p1 p2 p3 p4 k30 l5 p1 ((p2 - 1) - l5) h
set_option maxRecDepth 10000 in
set_option maxHeartbeats 4000000 in
theorem pX9_addUp_b30_ok {X : Cx} {G : Gx} {dk : Nat} {g : MT} {h0 : CT} {this : Nat} {p1 : Nat} {p2 : Int32} {p3 : Int32} {p4 : Nat} {k30 : Int32 → CT → Option CT} (Z : Zx X G cX9_addUp RX9 6 dk none none g h0) (hK : 2 ≤ dk) (t0 : gT g this = 8) (hk30 : ∀ (l5 : Int32) (h : CT), k30 l5 h = some h0 → J X g h 30 [(0, va_rf (some this)), (1, va_rf (some p1)), (2, .int p2), (3, .int p3), (4, va_rf (some p4)), (5, .int l5)] []) (l5 : Int32) (h : CT) (hf : pX9_addUp_b30 g this p1 p2 p3 p4 k30 l5 h = some h0) : J X g h 30 [(0, va_rf (some this)), (1, va_rf (some p1)), (2, .int p2), (3, .int p3), (4, va_rf (some p4)), (5, .int l5)] [] := by
  unfold pX9_addUp_b30 at hf
  refine J_iload Z.1 5 dX9_addUp_30 rfl ?_
  refine J_iload_n Z.1 2 dX9_addUp_32 rfl rfl ?_
  refine J_icmp_ge Z.1 74 dX9_addUp_33 (by decide) (fun c1 => ?_) (fun c1 => ?_)
  · rw [if_pos c1] at hf
    cases hf
    exact J_vret Z.1 Z.2.2.2.2.2 dX9_addUp_74
  · rw [if_neg c1] at hf
    refine J_aload_n Z.1 1 dX9_addUp_36 rfl rfl ?_
    refine J_iload_n Z.1 3 dX9_addUp_37 rfl rfl ?_
    refine J_if_eq Z.1 50 dX9_addUp_38 (by decide) (fun c2 => ?_) (fun c2 => ?_)
    · rw [if_pos c2] at hf
      refine J_iload Z.1 5 dX9_addUp_50 rfl ?_
      exact pX9_addUp_b52_ok Z hK t0 hk30 _ _ _ _ hf
    · rw [if_neg c2] at hf
      refine J_iload_n Z.1 2 dX9_addUp_41 rfl rfl ?_
      refine J_iconst Z.1 (v := 1) (by decide) dX9_addUp_42 ?_
      refine J_isub Z.1 dX9_addUp_43 ?_
      refine J_iload Z.1 5 dX9_addUp_44 rfl ?_
      refine J_isub Z.1 dX9_addUp_46 ?_
      refine J_goto Z.1 52 dX9_addUp_47 (by decide) ?_
      exact pX9_addUp_b52_ok Z hK t0 hk30 _ _ _ _ hf
def pX9_addUp_l30 (g : MT) (this : Nat) (p1 : Nat) (p2 : Int32) (p3 : Int32) (p4 : Nat) : Nat → Int32 → CT → Option CT
  | 0, _, _ => none
  | n + 1, l5, h => pX9_addUp_b30 g this p1 p2 p3 p4 (pX9_addUp_l30 g this p1 p2 p3 p4 n) l5 h
theorem pX9_addUp_l30_ok {X : Cx} {G : Gx} {dk : Nat} {g : MT} {h0 : CT} {this : Nat} {p1 : Nat} {p2 : Int32} {p3 : Int32} {p4 : Nat} (Z : Zx X G cX9_addUp RX9 6 dk none none g h0) (hK : 2 ≤ dk) (t0 : gT g this = 8) : ∀ (n : Nat) (l5 : Int32) (h : CT), pX9_addUp_l30 g this p1 p2 p3 p4 n l5 h = some h0 → J X g h 30 [(0, va_rf (some this)), (1, va_rf (some p1)), (2, .int p2), (3, .int p3), (4, va_rf (some p4)), (5, .int l5)] [] := by
  intro n
  induction n with
  | zero => intro l5 h hf; cases hf
  | succ n ih => intro l5 h hf; exact pX9_addUp_b30_ok Z hK t0 ih l5 h hf
def pX9_addUp_b27 (g : MT) (this : Nat) (p1 : Nat) (p2 : Int32) (p3 : Int32) (p4 : Nat) (h : CT) : Option CT := pX9_addUp_l30 g this p1 p2 p3 p4  FUEL 1 h
set_option maxRecDepth 10000 in
set_option maxHeartbeats 4000000 in
theorem pX9_addUp_b27_ok {X : Cx} {G : Gx} {dk : Nat} {g : MT} {h0 : CT} {this : Nat} {p1 : Nat} {p2 : Int32} {p3 : Int32} {p4 : Nat} (Z : Zx X G cX9_addUp RX9 6 dk none none g h0) (hK : 2 ≤ dk) (t0 : gT g this = 8) (h : CT) (hf : pX9_addUp_b27 g this p1 p2 p3 p4 h = some h0) : J X g h 27 [(0, va_rf (some this)), (1, va_rf (some p1)), (2, .int p2), (3, .int p3), (4, va_rf (some p4))] [] := by
  unfold pX9_addUp_b27 at hf
  refine J_iconst Z.1 (v := 1) (by decide) dX9_addUp_27 ?_
  refine J_istore Z.1 (lv2 := [(5, .int 1), (0, va_rf (some this)), (1, va_rf (some p1)), (2, .int p2), (3, .int p3), (4, va_rf (some p4))]) dX9_addUp_28 (zL Z (by decide)) rfl ?_
  refine J_lv [1, 2, 3, 4, 5, 0] rfl ?_
  exact pX9_addUp_l30_ok Z hK t0  FUEL _ _ hf
def pX9_addUp_b22 (g : MT) (this : Nat) (p1 : Nat) (p2 : Int32) (p3 : Int32) (p4 : Nat) (s0 : Nat) (s1 : Int32) (h : CT) : Option CT := tg g s0 7 (bd (pX8_fetch g h s0 s1 p4) fun h2 => (pX9_addUp_b27 g this p1 p2 p3 p4  h2))
set_option maxRecDepth 10000 in
set_option maxHeartbeats 4000000 in
theorem pX9_addUp_b22_ok {X : Cx} {G : Gx} {dk : Nat} {g : MT} {h0 : CT} {this : Nat} {p1 : Nat} {p2 : Int32} {p3 : Int32} {p4 : Nat} (Z : Zx X G cX9_addUp RX9 6 dk none none g h0) (hK : 2 ≤ dk) (t0 : gT g this = 8) (s0 : Nat) (s1 : Int32) (h : CT) (hf : pX9_addUp_b22 g this p1 p2 p3 p4 s0 s1 h = some h0) : J X g h 22 [(0, va_rf (some this)), (1, va_rf (some p1)), (2, .int p2), (3, .int p3), (4, va_rf (some p4))] [.int s1, va_rf (some s0)] := by
  unfold pX9_addUp_b22 at hf
  refine J_aload Z.1 4 dX9_addUp_22 rfl ?_
  replace hf := tg_i hf
  obtain ⟨t1, hf⟩ := hf
  replace hf := bd_i hf
  obtain ⟨h2, q3, hf⟩ := hf
  refine J_callV (ci := 6) (as := [.int s1, va_rf (some p4)]) (rest := []) (sy := []) Z.1 dX9_addUp_24 cw_X9_218 (pX8_fetch_ok G (dk - 1) (by omega) q3) rfl rfl t1 (zG Z) rfl (by decide) (zF Z (by omega)) (zO Z (by omega) (by decide)) (zM _) Z.2.1 Z.2.1 rfl rfl ?_
  exact pX9_addUp_b27_ok Z hK t0  _ hf
def pX9_addUp (g : MT) (h : CT) (this : Nat) (p1 : Nat) (p2 : Int32) (p3 : Int32) (p4 : Nat) : Option CT := tg g this 8 (tg g p4 4 (bd (pX4_setKind g h p4 1) fun h2 => (if p2 ≤ 0 then pX9_addUp_b27 g this p1 p2 p3 p4  h2 else if p3 = 0 then pX9_addUp_b22 g this p1 p2 p3 p4  p1 0 h2 else pX9_addUp_b22 g this p1 p2 p3 p4  p1 (p2 - 1) h2)))
set_option maxRecDepth 10000 in
set_option maxHeartbeats 4000000 in
theorem pX9_addUp_ok (G : Gx) (dk : Nat) (hK : 2 ≤ dk) {g : MT} {h h0 : CT} {this : Nat} {p1 : Nat} {p2 : Int32} {p3 : Int32} {p4 : Nat} (hf : pX9_addUp g h this p1 p2 p3 p4 = some h0) : Ctr G dk yX9_addUp cX9_addUp 6 none [va_rf (some this), va_rf (some p1), .int p2, .int p3, va_rf (some p4)] g h none g h0 := by
  refine Ctr.ofZ (lv := [(0, va_rf (some this)), (1, va_rf (some p1)), (2, .int p2), (3, .int p3), (4, va_rf (some p4))]) (by decide +kernel) (by simp [cat_i, cat_l, cat_d, cat_rf]) rfl fun X Z => ?_
  unfold pX9_addUp at hf
  replace hf := tg_i hf
  obtain ⟨t0, hf⟩ := hf
  refine J_aload Z.1 4 dX9_addUp_0 rfl ?_
  refine J_iconst Z.1 (v := 1) (by decide) dX9_addUp_2 ?_
  replace hf := tg_i hf
  obtain ⟨t1, hf⟩ := hf
  replace hf := bd_i hf
  obtain ⟨h2, q3, hf⟩ := hf
  refine J_callV (ci := 3) (as := [.int 1]) (rest := []) (sy := []) Z.1 dX9_addUp_3 cw_X9_228 (pX4_setKind_ok G (dk - 1) (by omega) q3) rfl rfl t1 (zG Z) rfl (by decide) (zF Z (by omega)) (zO Z (by omega) (by decide)) (zM _) Z.2.1 Z.2.1 rfl rfl ?_
  refine J_iload_n Z.1 2 dX9_addUp_6 rfl rfl ?_
  refine J_if_le Z.1 27 dX9_addUp_7 (by decide) (fun c4 => ?_) (fun c4 => ?_)
  · rw [if_pos c4] at hf
    exact pX9_addUp_b27_ok Z hK t0  _ hf
  · rw [if_neg c4] at hf
    refine J_aload_n Z.1 1 dX9_addUp_10 rfl rfl ?_
    refine J_iload_n Z.1 3 dX9_addUp_11 rfl rfl ?_
    refine J_if_eq Z.1 21 dX9_addUp_12 (by decide) (fun c5 => ?_) (fun c5 => ?_)
    · rw [if_pos c5] at hf
      refine J_iconst Z.1 (v := 0) (by decide) dX9_addUp_21 ?_
      exact pX9_addUp_b22_ok Z hK t0  _ _ _ hf
    · rw [if_neg c5] at hf
      refine J_iload_n Z.1 2 dX9_addUp_15 rfl rfl ?_
      refine J_iconst Z.1 (v := 1) (by decide) dX9_addUp_16 ?_
      refine J_isub Z.1 dX9_addUp_17 ?_
      refine J_goto Z.1 22 dX9_addUp_18 (by decide) ?_
      exact pX9_addUp_b22_ok Z hK t0  _ _ _ hf
