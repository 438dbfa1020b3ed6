/-! written by wip/whole/gen.py out of the printed bytecode -/
theorem dX13_strangeOf_0 : decode cX13_strangeOf 0 = .ok (.dconst 0, 1) := by decide +kernel
theorem dX13_strangeOf_1 : decode cX13_strangeOf 1 = .ok (.dstore_n 1, 1) := by decide +kernel
theorem dX13_strangeOf_2 : decode cX13_strangeOf 2 = .ok (.iload_n 0, 1) := by decide +kernel
theorem dX13_strangeOf_3 : decode cX13_strangeOf 3 = .ok (.iconst 1, 1) := by decide +kernel
theorem dX13_strangeOf_4 : decode cX13_strangeOf 4 = .ok (.if_icmp .ne 5, 3) := by decide +kernel
theorem dX13_strangeOf_7 : decode cX13_strangeOf 7 = .ok (.dload_n 1, 1) := by decide +kernel
theorem dX13_strangeOf_8 : decode cX13_strangeOf 8 = .ok (.dreturn, 1) := by decide +kernel
theorem dX13_strangeOf_9 : decode cX13_strangeOf 9 = .ok (.iload_n 0, 1) := by decide +kernel
theorem dX13_strangeOf_10 : decode cX13_strangeOf 10 = .ok (.iconst 2, 1) := by decide +kernel
theorem dX13_strangeOf_11 : decode cX13_strangeOf 11 = .ok (.if_icmp .ne 6, 3) := by decide +kernel
theorem dX13_strangeOf_14 : decode cX13_strangeOf 14 = .ok (.dload_n 1, 1) := by decide +kernel
theorem dX13_strangeOf_15 : decode cX13_strangeOf 15 = .ok (.dneg, 1) := by decide +kernel
theorem dX13_strangeOf_16 : decode cX13_strangeOf 16 = .ok (.dreturn, 1) := by decide +kernel
theorem dX13_strangeOf_17 : decode cX13_strangeOf 17 = .ok (.iload_n 0, 1) := by decide +kernel
theorem dX13_strangeOf_18 : decode cX13_strangeOf 18 = .ok (.iconst 3, 1) := by decide +kernel
theorem dX13_strangeOf_19 : decode cX13_strangeOf 19 = .ok (.if_icmp .ne 7, 3) := by decide +kernel
theorem dX13_strangeOf_22 : decode cX13_strangeOf 22 = .ok (.dconst 1, 1) := by decide +kernel
theorem dX13_strangeOf_23 : decode cX13_strangeOf 23 = .ok (.dload_n 1, 1) := by decide +kernel
theorem dX13_strangeOf_24 : decode cX13_strangeOf 24 = .ok (.ddiv, 1) := by decide +kernel
theorem dX13_strangeOf_25 : decode cX13_strangeOf 25 = .ok (.dreturn, 1) := by decide +kernel
theorem dX13_strangeOf_26 : decode cX13_strangeOf 26 = .ok (.iload_n 0, 1) := by decide +kernel
theorem dX13_strangeOf_27 : decode cX13_strangeOf 27 = .ok (.iconst 4, 1) := by decide +kernel
theorem dX13_strangeOf_28 : decode cX13_strangeOf 28 = .ok (.if_icmp .ne 11, 3) := by decide +kernel
theorem dX13_strangeOf_31 : decode cX13_strangeOf 31 = .ok (.ldc2_w 128, 3) := by decide +kernel
theorem dX13_strangeOf_34 : decode cX13_strangeOf 34 = .ok (.dload_n 1, 1) := by decide +kernel
theorem dX13_strangeOf_35 : decode cX13_strangeOf 35 = .ok (.ddiv, 1) := by decide +kernel
theorem dX13_strangeOf_36 : decode cX13_strangeOf 36 = .ok (.goto 6, 3) := by decide +kernel
theorem dX13_strangeOf_39 : decode cX13_strangeOf 39 = .ok (.dload_n 1, 1) := by decide +kernel
theorem dX13_strangeOf_40 : decode cX13_strangeOf 40 = .ok (.dload_n 1, 1) := by decide +kernel
theorem dX13_strangeOf_41 : decode cX13_strangeOf 41 = .ok (.ddiv, 1) := by decide +kernel
theorem dX13_strangeOf_42 : decode cX13_strangeOf 42 = .ok (.dreturn, 1) := by decide +kernel
def pX13_strangeOf (p0 : Int32) : UInt64 := if p0 = 1 then 0 else if p0 = 2 then (fneg 0) else if p0 = 3 then (fdiv 4607182418800017408 0) else if p0 = 4 then (fdiv 13830554455654793216 0) else (fdiv 0 0)
set_option maxRecDepth 10000 in
set_option maxHeartbeats 4000000 in
theorem pX13_strangeOf_ok (G : Gx) (dk : Nat) (hK : 0 ≤ dk) (g : MT) (h0 : CT) (p0 : Int32) : Ctr G dk yX13_strangeOf cX13_strangeOf 3 (some .double) [.int p0] g h0 (some (.double (pX13_strangeOf p0))) g h0 := by
  obtain ⟨r0, hf⟩ : ∃ z, pX13_strangeOf p0 = z := ⟨_, rfl⟩
  rw [hf]
  refine Ctr.ofZ (lv := [(0, .int p0)]) (by decide +kernel) (by simp [cat_i, cat_l, cat_d, cat_rf]) rfl fun X Z => ?_
  unfold pX13_strangeOf at hf
  refine J_dconst0 Z.1 dX13_strangeOf_0 ?_
  refine J_dstore_n Z.1 (lv2 := [(1, .double 0), (0, .int p0)]) dX13_strangeOf_1 rfl (zL Z (by decide)) rfl ?_
  refine J_iload_n Z.1 1 dX13_strangeOf_2 rfl rfl ?_
  refine J_iconst Z.1 (v := 1) (by decide) dX13_strangeOf_3 ?_
  refine J_icmp_ne Z.1 9 dX13_strangeOf_4 (by decide) (fun c1 => ?_) (fun c1 => ?_)
  · rw [if_neg c1] at hf
    refine J_iload_n Z.1 1 dX13_strangeOf_9 rfl rfl ?_
    refine J_iconst Z.1 (v := 2) (by decide) dX13_strangeOf_10 ?_
    refine J_icmp_ne Z.1 17 dX13_strangeOf_11 (by decide) (fun c2 => ?_) (fun c2 => ?_)
    · rw [if_neg c2] at hf
      refine J_iload_n Z.1 1 dX13_strangeOf_17 rfl rfl ?_
      refine J_iconst Z.1 (v := 3) (by decide) dX13_strangeOf_18 ?_
      refine J_icmp_ne Z.1 26 dX13_strangeOf_19 (by decide) (fun c3 => ?_) (fun c3 => ?_)
      · rw [if_neg c3] at hf
        refine J_iload_n Z.1 1 dX13_strangeOf_26 rfl rfl ?_
        refine J_iconst Z.1 (v := 4) (by decide) dX13_strangeOf_27 ?_
        refine J_icmp_ne Z.1 39 dX13_strangeOf_28 (by decide) (fun c4 => ?_) (fun c4 => ?_)
        · rw [if_neg c4] at hf
          refine J_dload_n Z.1 0 dX13_strangeOf_39 rfl rfl ?_
          refine J_dload_n Z.1 0 dX13_strangeOf_40 rfl rfl ?_
          refine J_ddiv Z.1 dX13_strangeOf_41 ?_
          cases hf
          exact J_dret Z.1 Z.2.2.2.2.2 dX13_strangeOf_42
        · rw [if_pos c4] at hf
          refine J_ldc2d Z.1 q_1828 (by decide +kernel) dX13_strangeOf_31 ?_
          refine J_dload_n Z.1 0 dX13_strangeOf_34 rfl rfl ?_
          refine J_ddiv Z.1 dX13_strangeOf_35 ?_
          refine J_goto Z.1 42 dX13_strangeOf_36 (by decide) ?_
          cases hf
          exact J_dret Z.1 Z.2.2.2.2.2 dX13_strangeOf_42
      · rw [if_pos c3] at hf
        refine J_dconst1 Z.1 dX13_strangeOf_22 ?_
        refine J_dload_n Z.1 0 dX13_strangeOf_23 rfl rfl ?_
        refine J_ddiv Z.1 dX13_strangeOf_24 ?_
        cases hf
        exact J_dret Z.1 Z.2.2.2.2.2 dX13_strangeOf_25
    · rw [if_pos c2] at hf
      refine J_dload_n Z.1 0 dX13_strangeOf_14 rfl rfl ?_
      refine J_dneg Z.1 dX13_strangeOf_15 ?_
      cases hf
      exact J_dret Z.1 Z.2.2.2.2.2 dX13_strangeOf_16
  · rw [if_pos c1] at hf
    refine J_dload_n Z.1 0 dX13_strangeOf_7 rfl rfl ?_
    cases hf
    exact J_dret Z.1 Z.2.2.2.2.2 dX13_strangeOf_8
theorem dX13_areAlike_0 : decode cX13_areAlike 0 = .ok (.dload_n 0, 1) := by decide +kernel
theorem dX13_areAlike_1 : decode cX13_areAlike 1 = .ok (.dload_n 2, 1) := by decide +kernel
theorem dX13_areAlike_2 : decode cX13_areAlike 2 = .ok (.dcmp .l, 1) := by decide +kernel
theorem dX13_areAlike_3 : decode cX13_areAlike 3 = .ok (.ifCond .eq 15, 3) := by decide +kernel
theorem dX13_areAlike_6 : decode cX13_areAlike 6 = .ok (.dload_n 0, 1) := by decide +kernel
theorem dX13_areAlike_7 : decode cX13_areAlike 7 = .ok (.dload_n 0, 1) := by decide +kernel
theorem dX13_areAlike_8 : decode cX13_areAlike 8 = .ok (.dcmp .l, 1) := by decide +kernel
theorem dX13_areAlike_9 : decode cX13_areAlike 9 = .ok (.ifCond .eq 13, 3) := by decide +kernel
theorem dX13_areAlike_12 : decode cX13_areAlike 12 = .ok (.dload_n 2, 1) := by decide +kernel
theorem dX13_areAlike_13 : decode cX13_areAlike 13 = .ok (.dload_n 2, 1) := by decide +kernel
theorem dX13_areAlike_14 : decode cX13_areAlike 14 = .ok (.dcmp .l, 1) := by decide +kernel
theorem dX13_areAlike_15 : decode cX13_areAlike 15 = .ok (.ifCond .eq 7, 3) := by decide +kernel
theorem dX13_areAlike_18 : decode cX13_areAlike 18 = .ok (.iconst 1, 1) := by decide +kernel
theorem dX13_areAlike_19 : decode cX13_areAlike 19 = .ok (.goto 4, 3) := by decide +kernel
theorem dX13_areAlike_22 : decode cX13_areAlike 22 = .ok (.iconst 0, 1) := by decide +kernel
theorem dX13_areAlike_23 : decode cX13_areAlike 23 = .ok (.ireturn, 1) := by decide +kernel
def pX13_areAlike_b18 (p0 : UInt64) (p2 : UInt64)  : Int32 := 1
set_option maxRecDepth 10000 in
set_option maxHeartbeats 4000000 in
theorem pX13_areAlike_b18_ok {X : Cx} {G : Gx} {dk : Nat} {g : MT} {r0 : Int32} {h0 : CT} {p0 : UInt64} {p2 : UInt64} (Z : Zx X G cX13_areAlike RX13 4 dk (some .boolean) (some (.int r0)) g h0) (hK : 0 ≤ dk)  (hf : pX13_areAlike_b18 p0 p2 = r0) : J X g h0 18 [] [] := by
  unfold pX13_areAlike_b18 at hf
  refine J_iconst Z.1 (v := 1) (by decide) dX13_areAlike_18 ?_
  refine J_goto Z.1 23 dX13_areAlike_19 (by decide) ?_
  cases hf
  exact J_zret Z.1 Z.2.2.2.2.2 (z_n (Or.inr rfl)) dX13_areAlike_23
def pX13_areAlike (p0 : UInt64) (p2 : UInt64) : Int32 := if (Op.cmpValue (FP.dcmp p0 p2) .l) = 0 then pX13_areAlike_b18 p0 p2   else if (Op.cmpValue (FP.dcmp p0 p0) .l) = 0 then 0 else if (Op.cmpValue (FP.dcmp p2 p2) .l) = 0 then 0 else pX13_areAlike_b18 p0 p2  
set_option maxRecDepth 10000 in
set_option maxHeartbeats 4000000 in
theorem pX13_areAlike_ok (G : Gx) (dk : Nat) (hK : 0 ≤ dk) (g : MT) (h0 : CT) (p0 : UInt64) (p2 : UInt64) : Ctr G dk yX13_areAlike cX13_areAlike 4 (some .boolean) [.double p0, .double p2] g h0 (some (.int (pX13_areAlike p0 p2))) g h0 := by
  obtain ⟨r0, hf⟩ : ∃ z, pX13_areAlike p0 p2 = z := ⟨_, rfl⟩
  rw [hf]
  refine Ctr.ofZ (lv := [(0, .double p0), (2, .double p2)]) (by decide +kernel) (by simp [cat_i, cat_l, cat_d, cat_rf]) rfl fun X Z => ?_
  unfold pX13_areAlike at hf
  refine J_dload_n Z.1 0 dX13_areAlike_0 rfl rfl ?_
  refine J_dload_n Z.1 1 dX13_areAlike_1 rfl rfl ?_
  refine J_dcmp Z.1 dX13_areAlike_2 ?_
  refine J_if_eq Z.1 18 dX13_areAlike_3 (by decide) (fun c1 => ?_) (fun c1 => ?_)
  · rw [if_pos c1] at hf
    refine J_lv [] rfl ?_
    exact pX13_areAlike_b18_ok Z hK   hf
  · rw [if_neg c1] at hf
    refine J_dload_n Z.1 0 dX13_areAlike_6 rfl rfl ?_
    refine J_dload_n Z.1 0 dX13_areAlike_7 rfl rfl ?_
    refine J_dcmp Z.1 dX13_areAlike_8 ?_
    refine J_if_eq Z.1 22 dX13_areAlike_9 (by decide) (fun c2 => ?_) (fun c2 => ?_)
    · rw [if_pos c2] at hf
      refine J_iconst Z.1 (v := 0) (by decide) dX13_areAlike_22 ?_
      cases hf
      exact J_zret Z.1 Z.2.2.2.2.2 (z_n (Or.inl rfl)) dX13_areAlike_23
    · rw [if_neg c2] at hf
      refine J_dload_n Z.1 1 dX13_areAlike_12 rfl rfl ?_
      refine J_dload_n Z.1 1 dX13_areAlike_13 rfl rfl ?_
      refine J_dcmp Z.1 dX13_areAlike_14 ?_
      refine J_if_eq Z.1 22 dX13_areAlike_15 (by decide) (fun c3 => ?_) (fun c3 => ?_)
      · rw [if_pos c3] at hf
        refine J_iconst Z.1 (v := 0) (by decide) dX13_areAlike_22 ?_
        cases hf
        exact J_zret Z.1 Z.2.2.2.2.2 (z_n (Or.inl rfl)) dX13_areAlike_23
      · rw [if_neg c3] at hf
        refine J_lv [] rfl ?_
        exact pX13_areAlike_b18_ok Z hK   hf
theorem pX13_areAlike_z (p0 : UInt64) (p2 : UInt64) : is01 (pX13_areAlike p0 p2) := by
  unfold pX13_areAlike
  simp only [pX13_areAlike_b18]
  (try split) <;> (try split) <;> (try split) <;> (try split) <;> (try split) <;> (try split) <;> (try split) <;> (try split) <;> first | exact Or.inl rfl | exact Or.inr rfl
theorem dX13_look2_0 : decode cX13_look2 0 = .ok (.iload_n 1, 1) := by decide +kernel
theorem dX13_look2_1 : decode cX13_look2 1 = .ok (.aload_n 0, 1) := by decide +kernel
theorem dX13_look2_2 : decode cX13_look2 2 = .ok (.getfield 130, 3) := by decide +kernel
theorem dX13_look2_5 : decode cX13_look2 5 = .ok (.if_icmp .ge 16, 3) := by decide +kernel
theorem dX13_look2_8 : decode cX13_look2 8 = .ok (.aload_n 0, 1) := by decide +kernel
theorem dX13_look2_9 : decode cX13_look2 9 = .ok (.getfield 20, 3) := by decide +kernel
theorem dX13_look2_12 : decode cX13_look2 12 = .ok (.iload_n 1, 1) := by decide +kernel
theorem dX13_look2_13 : decode cX13_look2 13 = .ok (.baload, 1) := by decide +kernel
theorem dX13_look2_14 : decode cX13_look2 14 = .ok (.sipush 255, 3) := by decide +kernel
theorem dX13_look2_17 : decode cX13_look2 17 = .ok (.iand, 1) := by decide +kernel
theorem dX13_look2_18 : decode cX13_look2 18 = .ok (.goto 4, 3) := by decide +kernel
theorem dX13_look2_21 : decode cX13_look2 21 = .ok (.iconst 0, 1) := by decide +kernel
theorem dX13_look2_22 : decode cX13_look2 22 = .ok (.ireturn, 1) := by decide +kernel
def pX13_look2 (g : MT) (h : CT) (this : Nat) (p1 : Int32) : Option Int32 := tg g this 12 (if (hI h this 9) ≤ p1 then some 0 else lt (hR h this 7) fun r2 => (nn r2 fun a2 => (tg g a2 23 (ix (gL g a2) p1 (some ((hI h a2 (Int32.toNatClampNeg p1)) &&& 255))))))
set_option maxRecDepth 10000 in
set_option maxHeartbeats 4000000 in
theorem pX13_look2_ok (G : Gx) (dk : Nat) (hK : 0 ≤ dk) {g : MT} {h : CT} {this : Nat} {p1 : Int32} {r0 : Int32} (hf : pX13_look2 g h this p1 = some r0) : Ctr G dk yX13_look2 cX13_look2 2 (some .int) [va_rf (some this), .int p1] g h (some (.int r0)) g h := by
  refine Ctr.ofZ (lv := [(0, va_rf (some this)), (1, .int p1)]) (by decide +kernel) (by simp [cat_i, cat_l, cat_d, cat_rf]) rfl fun X Z => ?_
  unfold pX13_look2 at hf
  obtain ⟨t0, hf⟩ := tg_i hf
  refine J_iload_n Z.1 1 dX13_look2_0 rfl rfl ?_
  refine J_aload_n Z.1 0 dX13_look2_1 rfl rfl ?_
  refine J_get (v := .int (hI h this 9)) Z.1 dX13_look2_2 fl_X13_130 t0 rfl ?_
  refine J_icmp_ge Z.1 21 dX13_look2_5 (by decide) (fun c1 => ?_) (fun c1 => ?_)
  · rw [if_pos c1] at hf
    refine J_iconst Z.1 (v := 0) (by decide) dX13_look2_21 ?_
    cases hf
    exact J_iret Z.1 Z.2.2.2.2.2 dX13_look2_22
  · rw [if_neg c1] at hf
    refine J_aload_n Z.1 0 dX13_look2_8 rfl rfl ?_
    refine J_get (v := va_rf (hR h this 7)) Z.1 dX13_look2_9 fl_X13_20 t0 rfl ?_
    refine J_tr (fun r2 er2 => ?_)
    replace hf := lt_i hf r2 er2
    refine J_iload_n Z.1 1 dX13_look2_12 rfl rfl ?_
    obtain ⟨a2, rfl, hf⟩ := nn_i hf
    obtain ⟨t3, hf⟩ := tg_i hf
    obtain ⟨i4, hf⟩ := ix_i hf
    refine J_baload Z.1 dX13_look2_13 t3 i4 ?_
    refine J_sipush Z.1 (v := 255) (by decide) dX13_look2_14 ?_
    refine J_iand Z.1 dX13_look2_17 ?_
    refine J_goto Z.1 22 dX13_look2_18 (by decide) ?_
    cases hf
    exact J_iret Z.1 Z.2.2.2.2.2 dX13_look2_22
theorem dX13_isLetter_0 : decode cX13_isLetter 0 = .ok (.iload_n 0, 1) := by decide +kernel
theorem dX13_isLetter_1 : decode cX13_isLetter 1 = .ok (.bipush 97, 2) := by decide +kernel
theorem dX13_isLetter_3 : decode cX13_isLetter 3 = .ok (.if_icmp .lt 13, 3) := by decide +kernel
theorem dX13_isLetter_6 : decode cX13_isLetter 6 = .ok (.iload_n 0, 1) := by decide +kernel
theorem dX13_isLetter_7 : decode cX13_isLetter 7 = .ok (.bipush 122, 2) := by decide +kernel
theorem dX13_isLetter_9 : decode cX13_isLetter 9 = .ok (.if_icmp .gt 7, 3) := by decide +kernel
theorem dX13_isLetter_12 : decode cX13_isLetter 12 = .ok (.iconst 1, 1) := by decide +kernel
theorem dX13_isLetter_13 : decode cX13_isLetter 13 = .ok (.goto 4, 3) := by decide +kernel
theorem dX13_isLetter_16 : decode cX13_isLetter 16 = .ok (.iconst 0, 1) := by decide +kernel
theorem dX13_isLetter_17 : decode cX13_isLetter 17 = .ok (.ireturn, 1) := by decide +kernel
def pX13_isLetter (p0 : Int32) : Int32 := if p0 < 97 then 0 else if 122 < p0 then 0 else 1
set_option maxRecDepth 10000 in
set_option maxHeartbeats 4000000 in
theorem pX13_isLetter_ok (G : Gx) (dk : Nat) (hK : 0 ≤ dk) (g : MT) (h0 : CT) (p0 : Int32) : Ctr G dk yX13_isLetter cX13_isLetter 1 (some .boolean) [.int p0] g h0 (some (.int (pX13_isLetter p0))) g h0 := by
  obtain ⟨r0, hf⟩ : ∃ z, pX13_isLetter p0 = z := ⟨_, rfl⟩
  rw [hf]
  refine Ctr.ofZ (lv := [(0, .int p0)]) (by decide +kernel) (by simp [cat_i, cat_l, cat_d, cat_rf]) rfl fun X Z => ?_
  unfold pX13_isLetter at hf
  refine J_iload_n Z.1 0 dX13_isLetter_0 rfl rfl ?_
  refine J_bipush Z.1 (v := 97) (by decide) dX13_isLetter_1 ?_
  refine J_icmp_lt Z.1 16 dX13_isLetter_3 (by decide) (fun c1 => ?_) (fun c1 => ?_)
  · rw [if_pos c1] at hf
    refine J_iconst Z.1 (v := 0) (by decide) dX13_isLetter_16 ?_
    cases hf
    exact J_zret Z.1 Z.2.2.2.2.2 (z_n (Or.inl rfl)) dX13_isLetter_17
  · rw [if_neg c1] at hf
    refine J_iload_n Z.1 0 dX13_isLetter_6 rfl rfl ?_
    refine J_bipush Z.1 (v := 122) (by decide) dX13_isLetter_7 ?_
    refine J_icmp_gt Z.1 16 dX13_isLetter_9 (by decide) (fun c2 => ?_) (fun c2 => ?_)
    · rw [if_pos c2] at hf
      refine J_iconst Z.1 (v := 0) (by decide) dX13_isLetter_16 ?_
      cases hf
      exact J_zret Z.1 Z.2.2.2.2.2 (z_n (Or.inl rfl)) dX13_isLetter_17
    · rw [if_neg c2] at hf
      refine J_iconst Z.1 (v := 1) (by decide) dX13_isLetter_12 ?_
      refine J_goto Z.1 17 dX13_isLetter_13 (by decide) ?_
      cases hf
      exact J_zret Z.1 Z.2.2.2.2.2 (z_n (Or.inr rfl)) dX13_isLetter_17
theorem pX13_isLetter_z (p0 : Int32) : is01 (pX13_isLetter p0) := by
  unfold pX13_isLetter
  (try split) <;> (try split) <;> (try split) <;> (try split) <;> (try split) <;> (try split) <;> (try split) <;> (try split) <;> first | exact Or.inl rfl | exact Or.inr rfl
theorem dX13_isDigit_0 : decode cX13_isDigit 0 = .ok (.iload_n 0, 1) := by decide +kernel
theorem dX13_isDigit_1 : decode cX13_isDigit 1 = .ok (.bipush 48, 2) := by decide +kernel
theorem dX13_isDigit_3 : decode cX13_isDigit 3 = .ok (.if_icmp .lt 13, 3) := by decide +kernel
theorem dX13_isDigit_6 : decode cX13_isDigit 6 = .ok (.iload_n 0, 1) := by decide +kernel
theorem dX13_isDigit_7 : decode cX13_isDigit 7 = .ok (.bipush 57, 2) := by decide +kernel
theorem dX13_isDigit_9 : decode cX13_isDigit 9 = .ok (.if_icmp .gt 7, 3) := by decide +kernel
theorem dX13_isDigit_12 : decode cX13_isDigit 12 = .ok (.iconst 1, 1) := by decide +kernel
theorem dX13_isDigit_13 : decode cX13_isDigit 13 = .ok (.goto 4, 3) := by decide +kernel
theorem dX13_isDigit_16 : decode cX13_isDigit 16 = .ok (.iconst 0, 1) := by decide +kernel
theorem dX13_isDigit_17 : decode cX13_isDigit 17 = .ok (.ireturn, 1) := by decide +kernel
def pX13_isDigit (p0 : Int32) : Int32 := if p0 < 48 then 0 else if 57 < p0 then 0 else 1
set_option maxRecDepth 10000 in
set_option maxHeartbeats 4000000 in
theorem pX13_isDigit_ok (G : Gx) (dk : Nat) (hK : 0 ≤ dk) (g : MT) (h0 : CT) (p0 : Int32) : Ctr G dk yX13_isDigit cX13_isDigit 1 (some .boolean) [.int p0] g h0 (some (.int (pX13_isDigit p0))) g h0 := by
  obtain ⟨r0, hf⟩ : ∃ z, pX13_isDigit p0 = z := ⟨_, rfl⟩
  rw [hf]
  refine Ctr.ofZ (lv := [(0, .int p0)]) (by decide +kernel) (by simp [cat_i, cat_l, cat_d, cat_rf]) rfl fun X Z => ?_
  unfold pX13_isDigit at hf
  refine J_iload_n Z.1 0 dX13_isDigit_0 rfl rfl ?_
  refine J_bipush Z.1 (v := 48) (by decide) dX13_isDigit_1 ?_
  refine J_icmp_lt Z.1 16 dX13_isDigit_3 (by decide) (fun c1 => ?_) (fun c1 => ?_)
  · rw [if_pos c1] at hf
    refine J_iconst Z.1 (v := 0) (by decide) dX13_isDigit_16 ?_
    cases hf
    exact J_zret Z.1 Z.2.2.2.2.2 (z_n (Or.inl rfl)) dX13_isDigit_17
  · rw [if_neg c1] at hf
    refine J_iload_n Z.1 0 dX13_isDigit_6 rfl rfl ?_
    refine J_bipush Z.1 (v := 57) (by decide) dX13_isDigit_7 ?_
    refine J_icmp_gt Z.1 16 dX13_isDigit_9 (by decide) (fun c2 => ?_) (fun c2 => ?_)
    · rw [if_pos c2] at hf
      refine J_iconst Z.1 (v := 0) (by decide) dX13_isDigit_16 ?_
      cases hf
      exact J_zret Z.1 Z.2.2.2.2.2 (z_n (Or.inl rfl)) dX13_isDigit_17
    · rw [if_neg c2] at hf
      refine J_iconst Z.1 (v := 1) (by decide) dX13_isDigit_12 ?_
      refine J_goto Z.1 17 dX13_isDigit_13 (by decide) ?_
      cases hf
      exact J_zret Z.1 Z.2.2.2.2.2 (z_n (Or.inr rfl)) dX13_isDigit_17
theorem pX13_isDigit_z (p0 : Int32) : is01 (pX13_isDigit p0) := by
  unfold pX13_isDigit
  (try split) <;> (try split) <;> (try split) <;> (try split) <;> (try split) <;> (try split) <;> (try split) <;> (try split) <;> first | exact Or.inl rfl | exact Or.inr rfl
theorem dX13_advance_0 : decode cX13_advance 0 = .ok (.aload_n 0, 1) := by decide +kernel
theorem dX13_advance_1 : decode cX13_advance 1 = .ok (.aload_n 0, 1) := by decide +kernel
theorem dX13_advance_2 : decode cX13_advance 2 = .ok (.getfield 133, 3) := by decide +kernel
theorem dX13_advance_5 : decode cX13_advance 5 = .ok (.putfield 136, 3) := by decide +kernel
theorem dX13_advance_8 : decode cX13_advance 8 = .ok (.aload_n 0, 1) := by decide +kernel
theorem dX13_advance_9 : decode cX13_advance 9 = .ok (.getfield 136, 3) := by decide +kernel
theorem dX13_advance_12 : decode cX13_advance 12 = .ok (.aload_n 0, 1) := by decide +kernel
theorem dX13_advance_13 : decode cX13_advance 13 = .ok (.getfield 130, 3) := by decide +kernel
theorem dX13_advance_16 : decode cX13_advance 16 = .ok (.if_icmp .ge 42, 3) := by decide +kernel
theorem dX13_advance_19 : decode cX13_advance 19 = .ok (.aload_n 0, 1) := by decide +kernel
theorem dX13_advance_20 : decode cX13_advance 20 = .ok (.aload_n 0, 1) := by decide +kernel
theorem dX13_advance_21 : decode cX13_advance 21 = .ok (.getfield 136, 3) := by decide +kernel
theorem dX13_advance_24 : decode cX13_advance 24 = .ok (.invokevirtual 139, 3) := by decide +kernel
theorem dX13_advance_27 : decode cX13_advance 27 = .ok (.bipush 10, 2) := by decide +kernel
theorem dX13_advance_29 : decode cX13_advance 29 = .ok (.if_icmp .eq 16, 3) := by decide +kernel
theorem dX13_advance_32 : decode cX13_advance 32 = .ok (.aload_n 0, 1) := by decide +kernel
theorem dX13_advance_33 : decode cX13_advance 33 = .ok (.aload_n 0, 1) := by decide +kernel
theorem dX13_advance_34 : decode cX13_advance 34 = .ok (.getfield 136, 3) := by decide +kernel
theorem dX13_advance_37 : decode cX13_advance 37 = .ok (.invokevirtual 139, 3) := by decide +kernel
theorem dX13_advance_40 : decode cX13_advance 40 = .ok (.bipush 32, 2) := by decide +kernel
theorem dX13_advance_42 : decode cX13_advance 42 = .ok (.if_icmp .ne 16, 3) := by decide +kernel
theorem dX13_advance_45 : decode cX13_advance 45 = .ok (.aload_n 0, 1) := by decide +kernel
theorem dX13_advance_46 : decode cX13_advance 46 = .ok (.dup, 1) := by decide +kernel
theorem dX13_advance_47 : decode cX13_advance 47 = .ok (.getfield 136, 3) := by decide +kernel
theorem dX13_advance_50 : decode cX13_advance 50 = .ok (.iconst 1, 1) := by decide +kernel
theorem dX13_advance_51 : decode cX13_advance 51 = .ok (.iadd, 1) := by decide +kernel
theorem dX13_advance_52 : decode cX13_advance 52 = .ok (.putfield 136, 3) := by decide +kernel
theorem dX13_advance_55 : decode cX13_advance 55 = .ok (.goto (-47), 3) := by decide +kernel
theorem dX13_advance_58 : decode cX13_advance 58 = .ok (.aload_n 0, 1) := by decide +kernel
theorem dX13_advance_59 : decode cX13_advance 59 = .ok (.aload_n 0, 1) := by decide +kernel
theorem dX13_advance_60 : decode cX13_advance 60 = .ok (.getfield 136, 3) := by decide +kernel
theorem dX13_advance_63 : decode cX13_advance 63 = .ok (.putfield 133, 3) := by decide +kernel
theorem dX13_advance_66 : decode cX13_advance 66 = .ok (.aload_n 0, 1) := by decide +kernel
theorem dX13_advance_67 : decode cX13_advance 67 = .ok (.getfield 136, 3) := by decide +kernel
theorem dX13_advance_70 : decode cX13_advance 70 = .ok (.aload_n 0, 1) := by decide +kernel
theorem dX13_advance_71 : decode cX13_advance 71 = .ok (.getfield 130, 3) := by decide +kernel
theorem dX13_advance_74 : decode cX13_advance 74 = .ok (.if_icmp .lt 9, 3) := by decide +kernel
theorem dX13_advance_77 : decode cX13_advance 77 = .ok (.aload_n 0, 1) := by decide +kernel
theorem dX13_advance_78 : decode cX13_advance 78 = .ok (.iconst 0, 1) := by decide +kernel
theorem dX13_advance_79 : decode cX13_advance 79 = .ok (.putfield 142, 3) := by decide +kernel
theorem dX13_advance_82 : decode cX13_advance 82 = .ok (.return_, 1) := by decide +kernel
theorem dX13_advance_83 : decode cX13_advance 83 = .ok (.aload_n 0, 1) := by decide +kernel
theorem dX13_advance_84 : decode cX13_advance 84 = .ok (.aload_n 0, 1) := by decide +kernel
theorem dX13_advance_85 : decode cX13_advance 85 = .ok (.getfield 136, 3) := by decide +kernel
theorem dX13_advance_88 : decode cX13_advance 88 = .ok (.invokevirtual 139, 3) := by decide +kernel
theorem dX13_advance_91 : decode cX13_advance 91 = .ok (.istore_n 1, 1) := by decide +kernel
theorem dX13_advance_92 : decode cX13_advance 92 = .ok (.iload_n 1, 1) := by decide +kernel
theorem dX13_advance_93 : decode cX13_advance 93 = .ok (.invokestatic 145, 3) := by decide +kernel
theorem dX13_advance_96 : decode cX13_advance 96 = .ok (.ifCond .eq 86, 3) := by decide +kernel
theorem dX13_advance_99 : decode cX13_advance 99 = .ok (.aload_n 0, 1) := by decide +kernel
theorem dX13_advance_100 : decode cX13_advance 100 = .ok (.iconst 1, 1) := by decide +kernel
theorem dX13_advance_101 : decode cX13_advance 101 = .ok (.putfield 142, 3) := by decide +kernel
theorem dX13_advance_104 : decode cX13_advance 104 = .ok (.aload_n 0, 1) := by decide +kernel
theorem dX13_advance_105 : decode cX13_advance 105 = .ok (.lconst 0, 1) := by decide +kernel
theorem dX13_advance_106 : decode cX13_advance 106 = .ok (.putfield 148, 3) := by decide +kernel
theorem dX13_advance_109 : decode cX13_advance 109 = .ok (.aload_n 0, 1) := by decide +kernel
theorem dX13_advance_110 : decode cX13_advance 110 = .ok (.aload_n 0, 1) := by decide +kernel
theorem dX13_advance_111 : decode cX13_advance 111 = .ok (.getfield 133, 3) := by decide +kernel
theorem dX13_advance_114 : decode cX13_advance 114 = .ok (.invokevirtual 139, 3) := by decide +kernel
theorem dX13_advance_117 : decode cX13_advance 117 = .ok (.invokestatic 145, 3) := by decide +kernel
theorem dX13_advance_120 : decode cX13_advance 120 = .ok (.ifCond .eq 187, 3) := by decide +kernel
theorem dX13_advance_123 : decode cX13_advance 123 = .ok (.aload_n 0, 1) := by decide +kernel
theorem dX13_advance_124 : decode cX13_advance 124 = .ok (.aload_n 0, 1) := by decide +kernel
theorem dX13_advance_125 : decode cX13_advance 125 = .ok (.getfield 133, 3) := by decide +kernel
theorem dX13_advance_128 : decode cX13_advance 128 = .ok (.aload_n 0, 1) := by decide +kernel
theorem dX13_advance_129 : decode cX13_advance 129 = .ok (.getfield 136, 3) := by decide +kernel
theorem dX13_advance_132 : decode cX13_advance 132 = .ok (.isub, 1) := by decide +kernel
theorem dX13_advance_133 : decode cX13_advance 133 = .ok (.bipush 8, 2) := by decide +kernel
theorem dX13_advance_135 : decode cX13_advance 135 = .ok (.if_icmp .ge 28, 3) := by decide +kernel
theorem dX13_advance_138 : decode cX13_advance 138 = .ok (.aload_n 0, 1) := by decide +kernel
theorem dX13_advance_139 : decode cX13_advance 139 = .ok (.getfield 148, 3) := by decide +kernel
theorem dX13_advance_142 : decode cX13_advance 142 = .ok (.ldc2_w 151, 3) := by decide +kernel
theorem dX13_advance_145 : decode cX13_advance 145 = .ok (.lmul, 1) := by decide +kernel
theorem dX13_advance_146 : decode cX13_advance 146 = .ok (.aload_n 0, 1) := by decide +kernel
theorem dX13_advance_147 : decode cX13_advance 147 = .ok (.aload_n 0, 1) := by decide +kernel
theorem dX13_advance_148 : decode cX13_advance 148 = .ok (.getfield 133, 3) := by decide +kernel
theorem dX13_advance_151 : decode cX13_advance 151 = .ok (.invokevirtual 139, 3) := by decide +kernel
theorem dX13_advance_154 : decode cX13_advance 154 = .ok (.i2l, 1) := by decide +kernel
theorem dX13_advance_155 : decode cX13_advance 155 = .ok (.ladd, 1) := by decide +kernel
theorem dX13_advance_156 : decode cX13_advance 156 = .ok (.ldc2_w 153, 3) := by decide +kernel
theorem dX13_advance_159 : decode cX13_advance 159 = .ok (.lsub, 1) := by decide +kernel
theorem dX13_advance_160 : decode cX13_advance 160 = .ok (.goto 6, 3) := by decide +kernel
theorem dX13_advance_163 : decode cX13_advance 163 = .ok (.ldc2_w 100, 3) := by decide +kernel
theorem dX13_advance_166 : decode cX13_advance 166 = .ok (.putfield 148, 3) := by decide +kernel
theorem dX13_advance_169 : decode cX13_advance 169 = .ok (.aload_n 0, 1) := by decide +kernel
theorem dX13_advance_170 : decode cX13_advance 170 = .ok (.dup, 1) := by decide +kernel
theorem dX13_advance_171 : decode cX13_advance 171 = .ok (.getfield 133, 3) := by decide +kernel
theorem dX13_advance_174 : decode cX13_advance 174 = .ok (.iconst 1, 1) := by decide +kernel
theorem dX13_advance_175 : decode cX13_advance 175 = .ok (.iadd, 1) := by decide +kernel
theorem dX13_advance_176 : decode cX13_advance 176 = .ok (.putfield 133, 3) := by decide +kernel
theorem dX13_advance_179 : decode cX13_advance 179 = .ok (.goto (-70), 3) := by decide +kernel
theorem dX13_advance_182 : decode cX13_advance 182 = .ok (.iload_n 1, 1) := by decide +kernel
theorem dX13_advance_183 : decode cX13_advance 183 = .ok (.invokestatic 155, 3) := by decide +kernel
theorem dX13_advance_186 : decode cX13_advance 186 = .ok (.ifCond .eq 96, 3) := by decide +kernel
theorem dX13_advance_189 : decode cX13_advance 189 = .ok (.aload_n 0, 1) := by decide +kernel
theorem dX13_advance_190 : decode cX13_advance 190 = .ok (.iconst 0, 1) := by decide +kernel
theorem dX13_advance_191 : decode cX13_advance 191 = .ok (.putfield 158, 3) := by decide +kernel
theorem dX13_advance_194 : decode cX13_advance 194 = .ok (.aload_n 0, 1) := by decide +kernel
theorem dX13_advance_195 : decode cX13_advance 195 = .ok (.aload_n 0, 1) := by decide +kernel
theorem dX13_advance_196 : decode cX13_advance 196 = .ok (.getfield 133, 3) := by decide +kernel
theorem dX13_advance_199 : decode cX13_advance 199 = .ok (.invokevirtual 139, 3) := by decide +kernel
theorem dX13_advance_202 : decode cX13_advance 202 = .ok (.invokestatic 155, 3) := by decide +kernel
theorem dX13_advance_205 : decode cX13_advance 205 = .ok (.ifCond .eq 52, 3) := by decide +kernel
theorem dX13_advance_208 : decode cX13_advance 208 = .ok (.aload_n 0, 1) := by decide +kernel
theorem dX13_advance_209 : decode cX13_advance 209 = .ok (.getfield 133, 3) := by decide +kernel
theorem dX13_advance_212 : decode cX13_advance 212 = .ok (.aload_n 0, 1) := by decide +kernel
theorem dX13_advance_213 : decode cX13_advance 213 = .ok (.getfield 136, 3) := by decide +kernel
theorem dX13_advance_216 : decode cX13_advance 216 = .ok (.isub, 1) := by decide +kernel
theorem dX13_advance_217 : decode cX13_advance 217 = .ok (.iconst 4, 1) := by decide +kernel
theorem dX13_advance_218 : decode cX13_advance 218 = .ok (.if_icmp .ge 26, 3) := by decide +kernel
theorem dX13_advance_221 : decode cX13_advance 221 = .ok (.aload_n 0, 1) := by decide +kernel
theorem dX13_advance_222 : decode cX13_advance 222 = .ok (.bipush 10, 2) := by decide +kernel
theorem dX13_advance_224 : decode cX13_advance 224 = .ok (.aload_n 0, 1) := by decide +kernel
theorem dX13_advance_225 : decode cX13_advance 225 = .ok (.getfield 158, 3) := by decide +kernel
theorem dX13_advance_228 : decode cX13_advance 228 = .ok (.imul, 1) := by decide +kernel
theorem dX13_advance_229 : decode cX13_advance 229 = .ok (.aload_n 0, 1) := by decide +kernel
theorem dX13_advance_230 : decode cX13_advance 230 = .ok (.aload_n 0, 1) := by decide +kernel
theorem dX13_advance_231 : decode cX13_advance 231 = .ok (.getfield 133, 3) := by decide +kernel
theorem dX13_advance_234 : decode cX13_advance 234 = .ok (.invokevirtual 139, 3) := by decide +kernel
theorem dX13_advance_237 : decode cX13_advance 237 = .ok (.iadd, 1) := by decide +kernel
theorem dX13_advance_238 : decode cX13_advance 238 = .ok (.bipush 48, 2) := by decide +kernel
theorem dX13_advance_240 : decode cX13_advance 240 = .ok (.isub, 1) := by decide +kernel
theorem dX13_advance_241 : decode cX13_advance 241 = .ok (.putfield 158, 3) := by decide +kernel
theorem dX13_advance_244 : decode cX13_advance 244 = .ok (.aload_n 0, 1) := by decide +kernel
theorem dX13_advance_245 : decode cX13_advance 245 = .ok (.dup, 1) := by decide +kernel
theorem dX13_advance_246 : decode cX13_advance 246 = .ok (.getfield 133, 3) := by decide +kernel
theorem dX13_advance_249 : decode cX13_advance 249 = .ok (.iconst 1, 1) := by decide +kernel
theorem dX13_advance_250 : decode cX13_advance 250 = .ok (.iadd, 1) := by decide +kernel
theorem dX13_advance_251 : decode cX13_advance 251 = .ok (.putfield 133, 3) := by decide +kernel
theorem dX13_advance_254 : decode cX13_advance 254 = .ok (.goto (-60), 3) := by decide +kernel
theorem dX13_advance_257 : decode cX13_advance 257 = .ok (.aload_n 0, 1) := by decide +kernel
theorem dX13_advance_258 : decode cX13_advance 258 = .ok (.aload_n 0, 1) := by decide +kernel
theorem dX13_advance_259 : decode cX13_advance 259 = .ok (.getfield 133, 3) := by decide +kernel
theorem dX13_advance_262 : decode cX13_advance 262 = .ok (.aload_n 0, 1) := by decide +kernel
theorem dX13_advance_263 : decode cX13_advance 263 = .ok (.getfield 136, 3) := by decide +kernel
theorem dX13_advance_266 : decode cX13_advance 266 = .ok (.isub, 1) := by decide +kernel
theorem dX13_advance_267 : decode cX13_advance 267 = .ok (.iconst 4, 1) := by decide +kernel
theorem dX13_advance_268 : decode cX13_advance 268 = .ok (.if_icmp .le 7, 3) := by decide +kernel
theorem dX13_advance_271 : decode cX13_advance 271 = .ok (.iconst 4, 1) := by decide +kernel
theorem dX13_advance_272 : decode cX13_advance 272 = .ok (.goto 4, 3) := by decide +kernel
theorem dX13_advance_275 : decode cX13_advance 275 = .ok (.iconst 2, 1) := by decide +kernel
theorem dX13_advance_276 : decode cX13_advance 276 = .ok (.putfield 142, 3) := by decide +kernel
theorem dX13_advance_279 : decode cX13_advance 279 = .ok (.goto 28, 3) := by decide +kernel
theorem dX13_advance_282 : decode cX13_advance 282 = .ok (.aload_n 0, 1) := by decide +kernel
theorem dX13_advance_283 : decode cX13_advance 283 = .ok (.aload_n 0, 1) := by decide +kernel
theorem dX13_advance_284 : decode cX13_advance 284 = .ok (.getfield 136, 3) := by decide +kernel
theorem dX13_advance_287 : decode cX13_advance 287 = .ok (.iconst 1, 1) := by decide +kernel
theorem dX13_advance_288 : decode cX13_advance 288 = .ok (.iadd, 1) := by decide +kernel
theorem dX13_advance_289 : decode cX13_advance 289 = .ok (.putfield 133, 3) := by decide +kernel
theorem dX13_advance_292 : decode cX13_advance 292 = .ok (.aload_n 0, 1) := by decide +kernel
theorem dX13_advance_293 : decode cX13_advance 293 = .ok (.iload_n 1, 1) := by decide +kernel
theorem dX13_advance_294 : decode cX13_advance 294 = .ok (.bipush 59, 2) := by decide +kernel
theorem dX13_advance_296 : decode cX13_advance 296 = .ok (.if_icmp .ne 7, 3) := by decide +kernel
theorem dX13_advance_299 : decode cX13_advance 299 = .ok (.iconst 3, 1) := by decide +kernel
theorem dX13_advance_300 : decode cX13_advance 300 = .ok (.goto 4, 3) := by decide +kernel
theorem dX13_advance_303 : decode cX13_advance 303 = .ok (.iconst 4, 1) := by decide +kernel
theorem dX13_advance_304 : decode cX13_advance 304 = .ok (.putfield 142, 3) := by decide +kernel
theorem dX13_advance_307 : decode cX13_advance 307 = .ok (.return_, 1) := by decide +kernel
def pX13_advance_b304 (g : MT) (this : Nat) (s0 : Nat) (s1 : Int32) (h : CT) : Option CT := tg g s0 12 (lt (sI h s0 14 s1) fun h2 => (some h2))
set_option maxRecDepth 10000 in
set_option maxHeartbeats 4000000 in
theorem pX13_advance_b304_ok {X : Cx} {G : Gx} {dk : Nat} {g : MT} {h0 : CT} {this : Nat} (Z : Zx X G cX13_advance RX13 2 dk none none g h0) (hK : 1 ≤ dk) (t0 : gT g this = 12) (s0 : Nat) (s1 : Int32) (h : CT) (hf : pX13_advance_b304 g this s0 s1 h = some h0) : J X g h 304 [] [.int s1, va_rf (some s0)] := by
  unfold pX13_advance_b304 at hf
  obtain ⟨t1, hf⟩ := tg_i hf
  refine J_putI Z.1 dX13_advance_304 fl_X13_142 (fun q => by cases q) t1 rfl rfl (congrArg Value.int (hI_s _ _ _ _)) ?_
  refine J_th (fun h2 eh2 => ?_)
  replace hf := lt_i hf h2 eh2
  cases hf
  exact J_vret Z.1 Z.2.2.2.2.2 dX13_advance_307
def pX13_advance_b276 (g : MT) (this : Nat) (s0 : Nat) (s1 : Int32) (h : CT) : Option CT := tg g s0 12 (lt (sI h s0 14 s1) fun h2 => (some h2))
set_option maxRecDepth 10000 in
set_option maxHeartbeats 4000000 in
theorem pX13_advance_b276_ok {X : Cx} {G : Gx} {dk : Nat} {g : MT} {h0 : CT} {this : Nat} (Z : Zx X G cX13_advance RX13 2 dk none none g h0) (hK : 1 ≤ dk) (t0 : gT g this = 12) (s0 : Nat) (s1 : Int32) (h : CT) (hf : pX13_advance_b276 g this s0 s1 h = some h0) : J X g h 276 [] [.int s1, va_rf (some s0)] := by
  unfold pX13_advance_b276 at hf
  obtain ⟨t1, hf⟩ := tg_i hf
  refine J_putI Z.1 dX13_advance_276 fl_X13_142 (fun q => by cases q) t1 rfl rfl (congrArg Value.int (hI_s _ _ _ _)) ?_
  refine J_th (fun h2 eh2 => ?_)
  replace hf := lt_i hf h2 eh2
  refine J_goto Z.1 307 dX13_advance_279 (by decide) ?_
  cases hf
  exact J_vret Z.1 Z.2.2.2.2.2 dX13_advance_307
def pX13_advance_b244 (g : MT) (this : Nat) (k194 : CT → Option CT) (h : CT) : Option CT := lt (sI h this 16 ((hI h this 16) + 1)) fun h1 => (k194 h1)
set_option maxRecDepth 10000 in
set_option maxHeartbeats 4000000 in
theorem pX13_advance_b244_ok {X : Cx} {G : Gx} {dk : Nat} {g : MT} {h0 : CT} {this : Nat} {k194 : CT → Option CT} (Z : Zx X G cX13_advance RX13 2 dk none none g h0) (hK : 1 ≤ dk) (t0 : gT g this = 12) (hk194 : ∀ (h : CT), k194 h = some h0 → J X g h 194 [(0, va_rf (some this))] []) (h : CT) (hf : pX13_advance_b244 g this k194 h = some h0) : J X g h 244 [(0, va_rf (some this))] [] := by
  unfold pX13_advance_b244 at hf
  refine J_aload_n Z.1 0 dX13_advance_244 rfl rfl ?_
  refine J_dup Z.1 dX13_advance_245 rfl ?_
  refine J_get (v := .int (hI h this 16)) Z.1 dX13_advance_246 fl_X13_133 t0 rfl ?_
  refine J_iconst Z.1 (v := 1) (by decide) dX13_advance_249 ?_
  refine J_iadd Z.1 dX13_advance_250 ?_
  refine J_putI Z.1 dX13_advance_251 fl_X13_133 (fun q => by cases q) t0 rfl rfl (congrArg Value.int (hI_s _ _ _ _)) ?_
  refine J_th (fun h1 eh1 => ?_)
  replace hf := lt_i hf h1 eh1
  refine J_goto Z.1 194 dX13_advance_254 (by decide) ?_
  exact hk194 _ hf
def pX13_advance_b194 (g : MT) (this : Nat) (k194 : CT → Option CT) (h : CT) : Option CT := bd (pX13_look2 g h this (hI h this 16)) fun x1 => (if (pX13_isDigit x1) = 0 then if ((hI h this 16) - (hI h this 15)) ≤ 4 then pX13_advance_b276 g this  this 2 h else pX13_advance_b276 g this  this 4 h else if 4 ≤ ((hI h this 16) - (hI h this 15)) then pX13_advance_b244 g this k194 h else bd (pX13_look2 g h this (hI h this 16)) fun x6 => (lt (sI h this 17 (((10 * (hI h this 17)) + x6) - 48)) fun h8 => (pX13_advance_b244 g this k194 h8)))
set_option maxRecDepth 10000 in
set_option maxHeartbeats 4000000 in
theorem pX13_advance_b194_ok {X : Cx} {G : Gx} {dk : Nat} {g : MT} {h0 : CT} {this : Nat} {k194 : CT → Option CT} (Z : Zx X G cX13_advance RX13 2 dk none none g h0) (hK : 1 ≤ dk) (t0 : gT g this = 12) (hk194 : ∀ (h : CT), k194 h = some h0 → J X g h 194 [(0, va_rf (some this))] []) (h : CT) (hf : pX13_advance_b194 g this k194 h = some h0) : J X g h 194 [(0, va_rf (some this))] [] := by
  unfold pX13_advance_b194 at hf
  refine J_aload_n Z.1 0 dX13_advance_194 rfl rfl ?_
  refine J_aload_n Z.1 0 dX13_advance_195 rfl rfl ?_
  refine J_get (v := .int (hI h this 16)) Z.1 dX13_advance_196 fl_X13_133 t0 rfl ?_
  obtain ⟨x1, q2, hf⟩ := bd_i hf
  refine J_callV (ci := 11) (as := [.int (hI h this 16)]) (rest := []) (sy := [.int x1]) Z.1 dX13_advance_199 cw_X13_139 (pX13_look2_ok G (dk - 1) (by omega) q2) rfl rfl t0 (zG Z) rfl (by decide) (zF Z (by omega)) (zO Z (by omega) (by decide)) (zM _) Z.2.1 Z.2.1 rfl rfl ?_
  refine J_callS (as := [.int x1]) (rest := []) (sy := [.int (pX13_isDigit x1)]) Z.1 dX13_advance_202 cw_X13_155 (pX13_isDigit_ok G (dk - 1) (by omega) g h x1) (zG Z) rfl (by decide) (zF Z (by omega)) (zO Z (by omega) (by decide)) (zM _) Z.2.1 Z.2.1 rfl rfl ?_
  refine J_if_eq Z.1 257 dX13_advance_205 (by decide) (fun c3 => ?_) (fun c3 => ?_)
  · rw [if_pos c3] at hf
    refine J_aload_n Z.1 0 dX13_advance_257 rfl rfl ?_
    refine J_aload_n Z.1 0 dX13_advance_258 rfl rfl ?_
    refine J_get (v := .int (hI h this 16)) Z.1 dX13_advance_259 fl_X13_133 t0 rfl ?_
    refine J_aload_n Z.1 0 dX13_advance_262 rfl rfl ?_
    refine J_get (v := .int (hI h this 15)) Z.1 dX13_advance_263 fl_X13_136 t0 rfl ?_
    refine J_isub Z.1 dX13_advance_266 ?_
    refine J_iconst Z.1 (v := 4) (by decide) dX13_advance_267 ?_
    refine J_icmp_le Z.1 275 dX13_advance_268 (by decide) (fun c4 => ?_) (fun c4 => ?_)
    · rw [if_pos c4] at hf
      refine J_iconst Z.1 (v := 2) (by decide) dX13_advance_275 ?_
      refine J_lv [] rfl ?_
      exact pX13_advance_b276_ok Z hK t0  _ _ _ hf
    · rw [if_neg c4] at hf
      refine J_iconst Z.1 (v := 4) (by decide) dX13_advance_271 ?_
      refine J_goto Z.1 276 dX13_advance_272 (by decide) ?_
      refine J_lv [] rfl ?_
      exact pX13_advance_b276_ok Z hK t0  _ _ _ hf
  · rw [if_neg c3] at hf
    refine J_aload_n Z.1 0 dX13_advance_208 rfl rfl ?_
    refine J_get (v := .int (hI h this 16)) Z.1 dX13_advance_209 fl_X13_133 t0 rfl ?_
    refine J_aload_n Z.1 0 dX13_advance_212 rfl rfl ?_
    refine J_get (v := .int (hI h this 15)) Z.1 dX13_advance_213 fl_X13_136 t0 rfl ?_
    refine J_isub Z.1 dX13_advance_216 ?_
    refine J_iconst Z.1 (v := 4) (by decide) dX13_advance_217 ?_
    refine J_icmp_ge Z.1 244 dX13_advance_218 (by decide) (fun c5 => ?_) (fun c5 => ?_)
    · rw [if_pos c5] at hf
      exact pX13_advance_b244_ok Z hK t0 hk194 _ hf
    · rw [if_neg c5] at hf
      refine J_aload_n Z.1 0 dX13_advance_221 rfl rfl ?_
      refine J_bipush Z.1 (v := 10) (by decide) dX13_advance_222 ?_
      refine J_aload_n Z.1 0 dX13_advance_224 rfl rfl ?_
      refine J_get (v := .int (hI h this 17)) Z.1 dX13_advance_225 fl_X13_158 t0 rfl ?_
      refine J_imul Z.1 dX13_advance_228 ?_
      refine J_aload_n Z.1 0 dX13_advance_229 rfl rfl ?_
      refine J_aload_n Z.1 0 dX13_advance_230 rfl rfl ?_
      refine J_get (v := .int (hI h this 16)) Z.1 dX13_advance_231 fl_X13_133 t0 rfl ?_
      obtain ⟨x6, q7, hf⟩ := bd_i hf
      refine J_callV (ci := 11) (as := [.int (hI h this 16)]) (rest := [.int (10 * (hI h this 17)), va_rf (some this)]) (sy := [.int x6, .int (10 * (hI h this 17)), va_rf (some this)]) Z.1 dX13_advance_234 cw_X13_139 (pX13_look2_ok G (dk - 1) (by omega) q7) rfl rfl t0 (zG Z) rfl (by simp [cat_i, cat_l, cat_d, cat_rf]) (zF Z (by omega)) (zO Z (by omega) (by decide)) (zM _) Z.2.1 Z.2.1 rfl rfl ?_
      refine J_iadd Z.1 dX13_advance_237 ?_
      refine J_bipush Z.1 (v := 48) (by decide) dX13_advance_238 ?_
      refine J_isub Z.1 dX13_advance_240 ?_
      refine J_putI Z.1 dX13_advance_241 fl_X13_158 (fun q => by cases q) t0 rfl rfl (congrArg Value.int (hI_s _ _ _ _)) ?_
      refine J_th (fun h8 eh8 => ?_)
      replace hf := lt_i hf h8 eh8
      exact pX13_advance_b244_ok Z hK t0 hk194 _ hf
def pX13_advance_l194 (g : MT) (this : Nat) : Nat → CT → Option CT
  | 0, _ => none
  | n + 1, h => pX13_advance_b194 g this (pX13_advance_l194 g this n) h
theorem pX13_advance_l194_ok {X : Cx} {G : Gx} {dk : Nat} {g : MT} {h0 : CT} {this : Nat} (Z : Zx X G cX13_advance RX13 2 dk none none g h0) (hK : 1 ≤ dk) (t0 : gT g this = 12) : ∀ (n : Nat) (h : CT), pX13_advance_l194 g this n h = some h0 → J X g h 194 [(0, va_rf (some this))] [] := by
  intro n
  induction n with
  | zero => intro h hf; cases hf
  | succ n ih => intro h hf; exact pX13_advance_b194_ok Z hK t0 ih h hf
def pX13_advance_b166 (g : MT) (this : Nat) (k109 : CT → Option CT) (s0 : Nat) (s1 : Int64) (h : CT) : Option CT := tg g s0 12 (lt (sL h s0 18 s1) fun h2 => (lt (sI h2 this 16 ((hI h2 this 16) + 1)) fun h3 => (k109 h3)))
set_option maxRecDepth 10000 in
set_option maxHeartbeats 4000000 in
theorem pX13_advance_b166_ok {X : Cx} {G : Gx} {dk : Nat} {g : MT} {h0 : CT} {this : Nat} {k109 : CT → Option CT} (Z : Zx X G cX13_advance RX13 2 dk none none g h0) (hK : 1 ≤ dk) (t0 : gT g this = 12) (hk109 : ∀ (h : CT), k109 h = some h0 → J X g h 109 [(0, va_rf (some this))] []) (s0 : Nat) (s1 : Int64) (h : CT) (hf : pX13_advance_b166 g this k109 s0 s1 h = some h0) : J X g h 166 [(0, va_rf (some this))] [.long s1, va_rf (some s0)] := by
  unfold pX13_advance_b166 at hf
  obtain ⟨t1, hf⟩ := tg_i hf
  refine J_putL Z.1 dX13_advance_166 fl_X13_148 (fun q => by cases q) t1 rfl rfl (congrArg Value.long (hL_s _ _ _ _)) ?_
  refine J_th (fun h2 eh2 => ?_)
  replace hf := lt_i hf h2 eh2
  refine J_aload_n Z.1 0 dX13_advance_169 rfl rfl ?_
  refine J_dup Z.1 dX13_advance_170 rfl ?_
  refine J_get (v := .int (hI h2 this 16)) Z.1 dX13_advance_171 fl_X13_133 t0 rfl ?_
  refine J_iconst Z.1 (v := 1) (by decide) dX13_advance_174 ?_
  refine J_iadd Z.1 dX13_advance_175 ?_
  refine J_putI Z.1 dX13_advance_176 fl_X13_133 (fun q => by cases q) t0 rfl rfl (congrArg Value.int (hI_s _ _ _ _)) ?_
  refine J_th (fun h3 eh3 => ?_)
  replace hf := lt_i hf h3 eh3
  refine J_goto Z.1 109 dX13_advance_179 (by decide) ?_
  exact hk109 _ hf
def pX13_advance_b109 (g : MT) (this : Nat) (k109 : CT → Option CT) (h : CT) : Option CT := bd (pX13_look2 g h this (hI h this 16)) fun x1 => (if (pX13_isLetter x1) = 0 then some h else if 8 ≤ ((hI h this 16) - (hI h this 15)) then pX13_advance_b166 g this k109 this (-1) h else bd (pX13_look2 g h this (hI h this 16)) fun x5 => (pX13_advance_b166 g this k109 this ((((hL h this 18) * 32) + (Int32.toInt64 x5)) - 96) h))
set_option maxRecDepth 10000 in
set_option maxHeartbeats 4000000 in
theorem pX13_advance_b109_ok {X : Cx} {G : Gx} {dk : Nat} {g : MT} {h0 : CT} {this : Nat} {k109 : CT → Option CT} (Z : Zx X G cX13_advance RX13 2 dk none none g h0) (hK : 1 ≤ dk) (t0 : gT g this = 12) (hk109 : ∀ (h : CT), k109 h = some h0 → J X g h 109 [(0, va_rf (some this))] []) (h : CT) (hf : pX13_advance_b109 g this k109 h = some h0) : J X g h 109 [(0, va_rf (some this))] [] := by
  unfold pX13_advance_b109 at hf
  refine J_aload_n Z.1 0 dX13_advance_109 rfl rfl ?_
  refine J_aload_n Z.1 0 dX13_advance_110 rfl rfl ?_
  refine J_get (v := .int (hI h this 16)) Z.1 dX13_advance_111 fl_X13_133 t0 rfl ?_
  obtain ⟨x1, q2, hf⟩ := bd_i hf
  refine J_callV (ci := 11) (as := [.int (hI h this 16)]) (rest := []) (sy := [.int x1]) Z.1 dX13_advance_114 cw_X13_139 (pX13_look2_ok G (dk - 1) (by omega) q2) rfl rfl t0 (zG Z) rfl (by decide) (zF Z (by omega)) (zO Z (by omega) (by decide)) (zM _) Z.2.1 Z.2.1 rfl rfl ?_
  refine J_callS (as := [.int x1]) (rest := []) (sy := [.int (pX13_isLetter x1)]) Z.1 dX13_advance_117 cw_X13_145 (pX13_isLetter_ok G (dk - 1) (by omega) g h x1) (zG Z) rfl (by decide) (zF Z (by omega)) (zO Z (by omega) (by decide)) (zM _) Z.2.1 Z.2.1 rfl rfl ?_
  refine J_if_eq Z.1 307 dX13_advance_120 (by decide) (fun c3 => ?_) (fun c3 => ?_)
  · rw [if_pos c3] at hf
    cases hf
    exact J_vret Z.1 Z.2.2.2.2.2 dX13_advance_307
  · rw [if_neg c3] at hf
    refine J_aload_n Z.1 0 dX13_advance_123 rfl rfl ?_
    refine J_aload_n Z.1 0 dX13_advance_124 rfl rfl ?_
    refine J_get (v := .int (hI h this 16)) Z.1 dX13_advance_125 fl_X13_133 t0 rfl ?_
    refine J_aload_n Z.1 0 dX13_advance_128 rfl rfl ?_
    refine J_get (v := .int (hI h this 15)) Z.1 dX13_advance_129 fl_X13_136 t0 rfl ?_
    refine J_isub Z.1 dX13_advance_132 ?_
    refine J_bipush Z.1 (v := 8) (by decide) dX13_advance_133 ?_
    refine J_icmp_ge Z.1 163 dX13_advance_135 (by decide) (fun c4 => ?_) (fun c4 => ?_)
    · rw [if_pos c4] at hf
      refine J_ldc2 Z.1 q_1596 dX13_advance_163 ?_
      exact pX13_advance_b166_ok Z hK t0 hk109 _ _ _ hf
    · rw [if_neg c4] at hf
      refine J_aload_n Z.1 0 dX13_advance_138 rfl rfl ?_
      refine J_get (v := .long (hL h this 18)) Z.1 dX13_advance_139 fl_X13_148 t0 rfl ?_
      refine J_ldc2 Z.1 q_1635 dX13_advance_142 ?_
      refine J_lmul Z.1 dX13_advance_145 ?_
      refine J_aload_n Z.1 0 dX13_advance_146 rfl rfl ?_
      refine J_aload_n Z.1 0 dX13_advance_147 rfl rfl ?_
      refine J_get (v := .int (hI h this 16)) Z.1 dX13_advance_148 fl_X13_133 t0 rfl ?_
      obtain ⟨x5, q6, hf⟩ := bd_i hf
      refine J_callV (ci := 11) (as := [.int (hI h this 16)]) (rest := [.long ((hL h this 18) * 32), va_rf (some this)]) (sy := [.int x5, .long ((hL h this 18) * 32), va_rf (some this)]) Z.1 dX13_advance_151 cw_X13_139 (pX13_look2_ok G (dk - 1) (by omega) q6) rfl rfl t0 (zG Z) rfl (by simp [cat_i, cat_l, cat_d, cat_rf]) (zF Z (by omega)) (zO Z (by omega) (by decide)) (zM _) Z.2.1 Z.2.1 rfl rfl ?_
      refine J_i2l Z.1 dX13_advance_154 ?_
      refine J_ladd Z.1 dX13_advance_155 ?_
      refine J_ldc2 Z.1 q_1636 dX13_advance_156 ?_
      refine J_lsub Z.1 dX13_advance_159 ?_
      refine J_goto Z.1 166 dX13_advance_160 (by decide) ?_
      exact pX13_advance_b166_ok Z hK t0 hk109 _ _ _ hf
def pX13_advance_l109 (g : MT) (this : Nat) : Nat → CT → Option CT
  | 0, _ => none
  | n + 1, h => pX13_advance_b109 g this (pX13_advance_l109 g this n) h
theorem pX13_advance_l109_ok {X : Cx} {G : Gx} {dk : Nat} {g : MT} {h0 : CT} {this : Nat} (Z : Zx X G cX13_advance RX13 2 dk none none g h0) (hK : 1 ≤ dk) (t0 : gT g this = 12) : ∀ (n : Nat) (h : CT), pX13_advance_l109 g this n h = some h0 → J X g h 109 [(0, va_rf (some this))] [] := by
  intro n
  induction n with
  | zero => intro h hf; cases hf
  | succ n ih => intro h hf; exact pX13_advance_b109_ok Z hK t0 ih h hf
def pX13_advance_b58 (g : MT) (this : Nat) (h : CT) : Option CT := lt (sI h this 16 (hI h this 15)) fun h1 => (if (hI h1 this 15) < (hI h1 this 9) then bd (pX13_look2 g h1 this (hI h1 this 15)) fun x3 => (if (pX13_isLetter x3) = 0 then if (pX13_isDigit x3) = 0 then lt (sI h1 this 16 ((hI h1 this 15) + 1)) fun h7 => (if x3 = 59 then pX13_advance_b304 g this  this 3 h7 else pX13_advance_b304 g this  this 4 h7) else lt (sI h1 this 17 0) fun h9 => (pX13_advance_l194 g this  FUEL h9) else lt (sI h1 this 14 1) fun h10 => (lt (sL h10 this 18 0) fun h11 => (pX13_advance_l109 g this  FUEL h11))) else lt (sI h1 this 14 0) fun h12 => (some h12))
set_option maxRecDepth 10000 in
set_option maxHeartbeats 4000000 in
theorem pX13_advance_b58_ok {X : Cx} {G : Gx} {dk : Nat} {g : MT} {h0 : CT} {this : Nat} (Z : Zx X G cX13_advance RX13 2 dk none none g h0) (hK : 1 ≤ dk) (t0 : gT g this = 12) (h : CT) (hf : pX13_advance_b58 g this h = some h0) : J X g h 58 [(0, va_rf (some this))] [] := by
  unfold pX13_advance_b58 at hf
  refine J_aload_n Z.1 0 dX13_advance_58 rfl rfl ?_
  refine J_aload_n Z.1 0 dX13_advance_59 rfl rfl ?_
  refine J_get (v := .int (hI h this 15)) Z.1 dX13_advance_60 fl_X13_136 t0 rfl ?_
  refine J_putI Z.1 dX13_advance_63 fl_X13_133 (fun q => by cases q) t0 rfl rfl (congrArg Value.int (hI_s _ _ _ _)) ?_
  refine J_th (fun h1 eh1 => ?_)
  replace hf := lt_i hf h1 eh1
  refine J_aload_n Z.1 0 dX13_advance_66 rfl rfl ?_
  refine J_get (v := .int (hI h1 this 15)) Z.1 dX13_advance_67 fl_X13_136 t0 rfl ?_
  refine J_aload_n Z.1 0 dX13_advance_70 rfl rfl ?_
  refine J_get (v := .int (hI h1 this 9)) Z.1 dX13_advance_71 fl_X13_130 t0 rfl ?_
  refine J_icmp_lt Z.1 83 dX13_advance_74 (by decide) (fun c2 => ?_) (fun c2 => ?_)
  · rw [if_pos c2] at hf
    refine J_aload_n Z.1 0 dX13_advance_83 rfl rfl ?_
    refine J_aload_n Z.1 0 dX13_advance_84 rfl rfl ?_
    refine J_get (v := .int (hI h1 this 15)) Z.1 dX13_advance_85 fl_X13_136 t0 rfl ?_
    obtain ⟨x3, q4, hf⟩ := bd_i hf
    refine J_callV (ci := 11) (as := [.int (hI h1 this 15)]) (rest := []) (sy := [.int x3]) Z.1 dX13_advance_88 cw_X13_139 (pX13_look2_ok G (dk - 1) (by omega) q4) rfl rfl t0 (zG Z) rfl (by decide) (zF Z (by omega)) (zO Z (by omega) (by decide)) (zM _) Z.2.1 Z.2.1 rfl rfl ?_
    refine J_istore_n Z.1 (lv2 := [(1, .int x3), (0, va_rf (some this))]) dX13_advance_91 rfl (zL Z (by decide)) rfl ?_
    refine J_iload_n Z.1 0 dX13_advance_92 rfl rfl ?_
    refine J_callS (as := [.int x3]) (rest := []) (sy := [.int (pX13_isLetter x3)]) Z.1 dX13_advance_93 cw_X13_145 (pX13_isLetter_ok G (dk - 1) (by omega) g h1 x3) (zG Z) rfl (by decide) (zF Z (by omega)) (zO Z (by omega) (by decide)) (zM _) Z.2.1 Z.2.1 rfl rfl ?_
    refine J_if_eq Z.1 182 dX13_advance_96 (by decide) (fun c5 => ?_) (fun c5 => ?_)
    · rw [if_pos c5] at hf
      refine J_iload_n Z.1 0 dX13_advance_182 rfl rfl ?_
      refine J_callS (as := [.int x3]) (rest := []) (sy := [.int (pX13_isDigit x3)]) Z.1 dX13_advance_183 cw_X13_155 (pX13_isDigit_ok G (dk - 1) (by omega) g h1 x3) (zG Z) rfl (by decide) (zF Z (by omega)) (zO Z (by omega) (by decide)) (zM _) Z.2.1 Z.2.1 rfl rfl ?_
      refine J_if_eq Z.1 282 dX13_advance_186 (by decide) (fun c6 => ?_) (fun c6 => ?_)
      · rw [if_pos c6] at hf
        refine J_aload_n Z.1 1 dX13_advance_282 rfl rfl ?_
        refine J_aload_n Z.1 1 dX13_advance_283 rfl rfl ?_
        refine J_get (v := .int (hI h1 this 15)) Z.1 dX13_advance_284 fl_X13_136 t0 rfl ?_
        refine J_iconst Z.1 (v := 1) (by decide) dX13_advance_287 ?_
        refine J_iadd Z.1 dX13_advance_288 ?_
        refine J_putI Z.1 dX13_advance_289 fl_X13_133 (fun q => by cases q) t0 rfl rfl (congrArg Value.int (hI_s _ _ _ _)) ?_
        refine J_th (fun h7 eh7 => ?_)
        replace hf := lt_i hf h7 eh7
        refine J_aload_n Z.1 1 dX13_advance_292 rfl rfl ?_
        refine J_iload_n Z.1 0 dX13_advance_293 rfl rfl ?_
        refine J_bipush Z.1 (v := 59) (by decide) dX13_advance_294 ?_
        refine J_icmp_ne Z.1 303 dX13_advance_296 (by decide) (fun c8 => ?_) (fun c8 => ?_)
        · rw [if_neg c8] at hf
          refine J_iconst Z.1 (v := 4) (by decide) dX13_advance_303 ?_
          refine J_lv [] rfl ?_
          exact pX13_advance_b304_ok Z hK t0  _ _ _ hf
        · rw [if_pos c8] at hf
          refine J_iconst Z.1 (v := 3) (by decide) dX13_advance_299 ?_
          refine J_goto Z.1 304 dX13_advance_300 (by decide) ?_
          refine J_lv [] rfl ?_
          exact pX13_advance_b304_ok Z hK t0  _ _ _ hf
      · rw [if_neg c6] at hf
        refine J_aload_n Z.1 1 dX13_advance_189 rfl rfl ?_
        refine J_iconst Z.1 (v := 0) (by decide) dX13_advance_190 ?_
        refine J_putI Z.1 dX13_advance_191 fl_X13_158 (fun q => by cases q) t0 rfl rfl (congrArg Value.int (hI_s _ _ _ _)) ?_
        refine J_th (fun h9 eh9 => ?_)
        replace hf := lt_i hf h9 eh9
        refine J_lv [1] rfl ?_
        exact pX13_advance_l194_ok Z hK t0  FUEL _ hf
    · rw [if_neg c5] at hf
      refine J_aload_n Z.1 1 dX13_advance_99 rfl rfl ?_
      refine J_iconst Z.1 (v := 1) (by decide) dX13_advance_100 ?_
      refine J_putI Z.1 dX13_advance_101 fl_X13_142 (fun q => by cases q) t0 rfl rfl (congrArg Value.int (hI_s _ _ _ _)) ?_
      refine J_th (fun h10 eh10 => ?_)
      replace hf := lt_i hf h10 eh10
      refine J_aload_n Z.1 1 dX13_advance_104 rfl rfl ?_
      refine J_lconst Z.1 (v := 0) (by decide) dX13_advance_105 ?_
      refine J_putL Z.1 dX13_advance_106 fl_X13_148 (fun q => by cases q) t0 rfl rfl (congrArg Value.long (hL_s _ _ _ _)) ?_
      refine J_th (fun h11 eh11 => ?_)
      replace hf := lt_i hf h11 eh11
      refine J_lv [1] rfl ?_
      exact pX13_advance_l109_ok Z hK t0  FUEL _ hf
  · rw [if_neg c2] at hf
    refine J_aload_n Z.1 0 dX13_advance_77 rfl rfl ?_
    refine J_iconst Z.1 (v := 0) (by decide) dX13_advance_78 ?_
    refine J_putI Z.1 dX13_advance_79 fl_X13_142 (fun q => by cases q) t0 rfl rfl (congrArg Value.int (hI_s _ _ _ _)) ?_
    refine J_th (fun h12 eh12 => ?_)
    replace hf := lt_i hf h12 eh12
    cases hf
    exact J_vret Z.1 Z.2.2.2.2.2 dX13_advance_82
def pX13_advance_b45 (g : MT) (this : Nat) (k8 : CT → Option CT) (h : CT) : Option CT := lt (sI h this 15 ((hI h this 15) + 1)) fun h1 => (k8 h1)
set_option maxRecDepth 10000 in
set_option maxHeartbeats 4000000 in
theorem pX13_advance_b45_ok {X : Cx} {G : Gx} {dk : Nat} {g : MT} {h0 : CT} {this : Nat} {k8 : CT → Option CT} (Z : Zx X G cX13_advance RX13 2 dk none none g h0) (hK : 1 ≤ dk) (t0 : gT g this = 12) (hk8 : ∀ (h : CT), k8 h = some h0 → J X g h 8 [(0, va_rf (some this))] []) (h : CT) (hf : pX13_advance_b45 g this k8 h = some h0) : J X g h 45 [(0, va_rf (some this))] [] := by
  unfold pX13_advance_b45 at hf
  refine J_aload_n Z.1 0 dX13_advance_45 rfl rfl ?_
  refine J_dup Z.1 dX13_advance_46 rfl ?_
  refine J_get (v := .int (hI h this 15)) Z.1 dX13_advance_47 fl_X13_136 t0 rfl ?_
  refine J_iconst Z.1 (v := 1) (by decide) dX13_advance_50 ?_
  refine J_iadd Z.1 dX13_advance_51 ?_
  refine J_putI Z.1 dX13_advance_52 fl_X13_136 (fun q => by cases q) t0 rfl rfl (congrArg Value.int (hI_s _ _ _ _)) ?_
  refine J_th (fun h1 eh1 => ?_)
  replace hf := lt_i hf h1 eh1
  refine J_goto Z.1 8 dX13_advance_55 (by decide) ?_
  exact hk8 _ hf
def pX13_advance_b8 (g : MT) (this : Nat) (k8 : CT → Option CT) (h : CT) : Option CT := if (hI h this 9) ≤ (hI h this 15) then pX13_advance_b58 g this  h else bd (pX13_look2 g h this (hI h this 15)) fun x2 => (if x2 = 10 then pX13_advance_b45 g this k8 h else bd (pX13_look2 g h this (hI h this 15)) fun x5 => (if x5 = 32 then pX13_advance_b45 g this k8 h else pX13_advance_b58 g this  h))
set_option maxRecDepth 10000 in
set_option maxHeartbeats 4000000 in
theorem pX13_advance_b8_ok {X : Cx} {G : Gx} {dk : Nat} {g : MT} {h0 : CT} {this : Nat} {k8 : CT → Option CT} (Z : Zx X G cX13_advance RX13 2 dk none none g h0) (hK : 1 ≤ dk) (t0 : gT g this = 12) (hk8 : ∀ (h : CT), k8 h = some h0 → J X g h 8 [(0, va_rf (some this))] []) (h : CT) (hf : pX13_advance_b8 g this k8 h = some h0) : J X g h 8 [(0, va_rf (some this))] [] := by
  unfold pX13_advance_b8 at hf
  refine J_aload_n Z.1 0 dX13_advance_8 rfl rfl ?_
  refine J_get (v := .int (hI h this 15)) Z.1 dX13_advance_9 fl_X13_136 t0 rfl ?_
  refine J_aload_n Z.1 0 dX13_advance_12 rfl rfl ?_
  refine J_get (v := .int (hI h this 9)) Z.1 dX13_advance_13 fl_X13_130 t0 rfl ?_
  refine J_icmp_ge Z.1 58 dX13_advance_16 (by decide) (fun c1 => ?_) (fun c1 => ?_)
  · rw [if_pos c1] at hf
    exact pX13_advance_b58_ok Z hK t0  _ hf
  · rw [if_neg c1] at hf
    refine J_aload_n Z.1 0 dX13_advance_19 rfl rfl ?_
    refine J_aload_n Z.1 0 dX13_advance_20 rfl rfl ?_
    refine J_get (v := .int (hI h this 15)) Z.1 dX13_advance_21 fl_X13_136 t0 rfl ?_
    obtain ⟨x2, q3, hf⟩ := bd_i hf
    refine J_callV (ci := 11) (as := [.int (hI h this 15)]) (rest := []) (sy := [.int x2]) Z.1 dX13_advance_24 cw_X13_139 (pX13_look2_ok G (dk - 1) (by omega) q3) rfl rfl t0 (zG Z) rfl (by decide) (zF Z (by omega)) (zO Z (by omega) (by decide)) (zM _) Z.2.1 Z.2.1 rfl rfl ?_
    refine J_bipush Z.1 (v := 10) (by decide) dX13_advance_27 ?_
    refine J_icmp_eq Z.1 45 dX13_advance_29 (by decide) (fun c4 => ?_) (fun c4 => ?_)
    · rw [if_pos c4] at hf
      exact pX13_advance_b45_ok Z hK t0 hk8 _ hf
    · rw [if_neg c4] at hf
      refine J_aload_n Z.1 0 dX13_advance_32 rfl rfl ?_
      refine J_aload_n Z.1 0 dX13_advance_33 rfl rfl ?_
      refine J_get (v := .int (hI h this 15)) Z.1 dX13_advance_34 fl_X13_136 t0 rfl ?_
      obtain ⟨x5, q6, hf⟩ := bd_i hf
      refine J_callV (ci := 11) (as := [.int (hI h this 15)]) (rest := []) (sy := [.int x5]) Z.1 dX13_advance_37 cw_X13_139 (pX13_look2_ok G (dk - 1) (by omega) q6) rfl rfl t0 (zG Z) rfl (by decide) (zF Z (by omega)) (zO Z (by omega) (by decide)) (zM _) Z.2.1 Z.2.1 rfl rfl ?_
      refine J_bipush Z.1 (v := 32) (by decide) dX13_advance_40 ?_
      refine J_icmp_ne Z.1 58 dX13_advance_42 (by decide) (fun c7 => ?_) (fun c7 => ?_)
      · rw [if_neg c7] at hf
        exact pX13_advance_b58_ok Z hK t0  _ hf
      · rw [if_pos c7] at hf
        exact pX13_advance_b45_ok Z hK t0 hk8 _ hf
def pX13_advance_l8 (g : MT) (this : Nat) : Nat → CT → Option CT
  | 0, _ => none
  | n + 1, h => pX13_advance_b8 g this (pX13_advance_l8 g this n) h
theorem pX13_advance_l8_ok {X : Cx} {G : Gx} {dk : Nat} {g : MT} {h0 : CT} {this : Nat} (Z : Zx X G cX13_advance RX13 2 dk none none g h0) (hK : 1 ≤ dk) (t0 : gT g this = 12) : ∀ (n : Nat) (h : CT), pX13_advance_l8 g this n h = some h0 → J X g h 8 [(0, va_rf (some this))] [] := by
  intro n
  induction n with
  | zero => intro h hf; cases hf
  | succ n ih => intro h hf; exact pX13_advance_b8_ok Z hK t0 ih h hf
def pX13_advance (g : MT) (h : CT) (this : Nat) : Option CT := tg g this 12 (lt (sI h this 15 (hI h this 16)) fun h1 => (pX13_advance_l8 g this  FUEL h1))
set_option maxRecDepth 10000 in
set_option maxHeartbeats 4000000 in
theorem pX13_advance_ok (G : Gx) (dk : Nat) (hK : 1 ≤ dk) {g : MT} {h h0 : CT} {this : Nat} (hf : pX13_advance g h this = some h0) : Ctr G dk yX13_advance cX13_advance 2 none [va_rf (some this)] g h none g h0 := by
  refine Ctr.ofZ (lv := [(0, va_rf (some this))]) (by decide +kernel) (by simp [cat_i, cat_l, cat_d, cat_rf]) rfl fun X Z => ?_
  unfold pX13_advance at hf
  obtain ⟨t0, hf⟩ := tg_i hf
  refine J_aload_n Z.1 0 dX13_advance_0 rfl rfl ?_
  refine J_aload_n Z.1 0 dX13_advance_1 rfl rfl ?_
  refine J_get (v := .int (hI h this 16)) Z.1 dX13_advance_2 fl_X13_133 t0 rfl ?_
  refine J_putI Z.1 dX13_advance_5 fl_X13_136 (fun q => by cases q) t0 rfl rfl (congrArg Value.int (hI_s _ _ _ _)) ?_
  refine J_th (fun h1 eh1 => ?_)
  replace hf := lt_i hf h1 eh1
  exact pX13_advance_l8_ok Z hK t0  FUEL _ hf
theorem dX13_spelled_0 : decode cX13_spelled 0 = .ok (.iload_n 0, 1) := by decide +kernel
theorem dX13_spelled_1 : decode cX13_spelled 1 = .ok (.i2l, 1) := by decide +kernel
theorem dX13_spelled_2 : decode cX13_spelled 2 = .ok (.ldc2_w 153, 3) := by decide +kernel
theorem dX13_spelled_5 : decode cX13_spelled 5 = .ok (.lsub, 1) := by decide +kernel
theorem dX13_spelled_6 : decode cX13_spelled 6 = .ok (.ldc2_w 151, 3) := by decide +kernel
theorem dX13_spelled_9 : decode cX13_spelled 9 = .ok (.lmul, 1) := by decide +kernel
theorem dX13_spelled_10 : decode cX13_spelled 10 = .ok (.iload_n 1, 1) := by decide +kernel
theorem dX13_spelled_11 : decode cX13_spelled 11 = .ok (.i2l, 1) := by decide +kernel
theorem dX13_spelled_12 : decode cX13_spelled 12 = .ok (.ladd, 1) := by decide +kernel
theorem dX13_spelled_13 : decode cX13_spelled 13 = .ok (.ldc2_w 153, 3) := by decide +kernel
theorem dX13_spelled_16 : decode cX13_spelled 16 = .ok (.lsub, 1) := by decide +kernel
theorem dX13_spelled_17 : decode cX13_spelled 17 = .ok (.lstore 6, 2) := by decide +kernel
theorem dX13_spelled_19 : decode cX13_spelled 19 = .ok (.iload_n 2, 1) := by decide +kernel
theorem dX13_spelled_20 : decode cX13_spelled 20 = .ok (.ifCond .le 19, 3) := by decide +kernel
theorem dX13_spelled_23 : decode cX13_spelled 23 = .ok (.lload 6, 2) := by decide +kernel
theorem dX13_spelled_25 : decode cX13_spelled 25 = .ok (.ldc2_w 151, 3) := by decide +kernel
theorem dX13_spelled_28 : decode cX13_spelled 28 = .ok (.lmul, 1) := by decide +kernel
theorem dX13_spelled_29 : decode cX13_spelled 29 = .ok (.iload_n 2, 1) := by decide +kernel
theorem dX13_spelled_30 : decode cX13_spelled 30 = .ok (.i2l, 1) := by decide +kernel
theorem dX13_spelled_31 : decode cX13_spelled 31 = .ok (.ladd, 1) := by decide +kernel
theorem dX13_spelled_32 : decode cX13_spelled 32 = .ok (.ldc2_w 153, 3) := by decide +kernel
theorem dX13_spelled_35 : decode cX13_spelled 35 = .ok (.lsub, 1) := by decide +kernel
theorem dX13_spelled_36 : decode cX13_spelled 36 = .ok (.goto 5, 3) := by decide +kernel
theorem dX13_spelled_39 : decode cX13_spelled 39 = .ok (.lload 6, 2) := by decide +kernel
theorem dX13_spelled_41 : decode cX13_spelled 41 = .ok (.lstore 6, 2) := by decide +kernel
theorem dX13_spelled_43 : decode cX13_spelled 43 = .ok (.iload_n 3, 1) := by decide +kernel
theorem dX13_spelled_44 : decode cX13_spelled 44 = .ok (.ifCond .le 19, 3) := by decide +kernel
theorem dX13_spelled_47 : decode cX13_spelled 47 = .ok (.lload 6, 2) := by decide +kernel
theorem dX13_spelled_49 : decode cX13_spelled 49 = .ok (.ldc2_w 151, 3) := by decide +kernel
theorem dX13_spelled_52 : decode cX13_spelled 52 = .ok (.lmul, 1) := by decide +kernel
theorem dX13_spelled_53 : decode cX13_spelled 53 = .ok (.iload_n 3, 1) := by decide +kernel
theorem dX13_spelled_54 : decode cX13_spelled 54 = .ok (.i2l, 1) := by decide +kernel
theorem dX13_spelled_55 : decode cX13_spelled 55 = .ok (.ladd, 1) := by decide +kernel
theorem dX13_spelled_56 : decode cX13_spelled 56 = .ok (.ldc2_w 153, 3) := by decide +kernel
theorem dX13_spelled_59 : decode cX13_spelled 59 = .ok (.lsub, 1) := by decide +kernel
theorem dX13_spelled_60 : decode cX13_spelled 60 = .ok (.goto 5, 3) := by decide +kernel
theorem dX13_spelled_63 : decode cX13_spelled 63 = .ok (.lload 6, 2) := by decide +kernel
theorem dX13_spelled_65 : decode cX13_spelled 65 = .ok (.lstore 6, 2) := by decide +kernel
theorem dX13_spelled_67 : decode cX13_spelled 67 = .ok (.iload 4, 2) := by decide +kernel
theorem dX13_spelled_69 : decode cX13_spelled 69 = .ok (.ifCond .le 20, 3) := by decide +kernel
theorem dX13_spelled_72 : decode cX13_spelled 72 = .ok (.lload 6, 2) := by decide +kernel
theorem dX13_spelled_74 : decode cX13_spelled 74 = .ok (.ldc2_w 151, 3) := by decide +kernel
theorem dX13_spelled_77 : decode cX13_spelled 77 = .ok (.lmul, 1) := by decide +kernel
theorem dX13_spelled_78 : decode cX13_spelled 78 = .ok (.iload 4, 2) := by decide +kernel
theorem dX13_spelled_80 : decode cX13_spelled 80 = .ok (.i2l, 1) := by decide +kernel
theorem dX13_spelled_81 : decode cX13_spelled 81 = .ok (.ladd, 1) := by decide +kernel
theorem dX13_spelled_82 : decode cX13_spelled 82 = .ok (.ldc2_w 153, 3) := by decide +kernel
theorem dX13_spelled_85 : decode cX13_spelled 85 = .ok (.lsub, 1) := by decide +kernel
theorem dX13_spelled_86 : decode cX13_spelled 86 = .ok (.goto 5, 3) := by decide +kernel
theorem dX13_spelled_89 : decode cX13_spelled 89 = .ok (.lload 6, 2) := by decide +kernel
theorem dX13_spelled_91 : decode cX13_spelled 91 = .ok (.lstore 6, 2) := by decide +kernel
theorem dX13_spelled_93 : decode cX13_spelled 93 = .ok (.iload 5, 2) := by decide +kernel
theorem dX13_spelled_95 : decode cX13_spelled 95 = .ok (.ifCond .le 20, 3) := by decide +kernel
theorem dX13_spelled_98 : decode cX13_spelled 98 = .ok (.lload 6, 2) := by decide +kernel
theorem dX13_spelled_100 : decode cX13_spelled 100 = .ok (.ldc2_w 151, 3) := by decide +kernel
theorem dX13_spelled_103 : decode cX13_spelled 103 = .ok (.lmul, 1) := by decide +kernel
theorem dX13_spelled_104 : decode cX13_spelled 104 = .ok (.iload 5, 2) := by decide +kernel
theorem dX13_spelled_106 : decode cX13_spelled 106 = .ok (.i2l, 1) := by decide +kernel
theorem dX13_spelled_107 : decode cX13_spelled 107 = .ok (.ladd, 1) := by decide +kernel
theorem dX13_spelled_108 : decode cX13_spelled 108 = .ok (.ldc2_w 153, 3) := by decide +kernel
theorem dX13_spelled_111 : decode cX13_spelled 111 = .ok (.lsub, 1) := by decide +kernel
theorem dX13_spelled_112 : decode cX13_spelled 112 = .ok (.goto 5, 3) := by decide +kernel
theorem dX13_spelled_115 : decode cX13_spelled 115 = .ok (.lload 6, 2) := by decide +kernel
theorem dX13_spelled_117 : decode cX13_spelled 117 = .ok (.lreturn, 1) := by decide +kernel
def pX13_spelled_b91 (p0 : Int32) (p1 : Int32) (p2 : Int32) (p3 : Int32) (p4 : Int32) (p5 : Int32) (s0 : Int64) : Int64 := if p5 ≤ 0 then s0 else (((s0 * 32) + (Int32.toInt64 p5)) - 96)
set_option maxRecDepth 10000 in
set_option maxHeartbeats 4000000 in
theorem pX13_spelled_b91_ok {X : Cx} {G : Gx} {dk : Nat} {g : MT} {r0 : Int64} {h0 : CT} {p0 : Int32} {p1 : Int32} {p2 : Int32} {p3 : Int32} {p4 : Int32} {p5 : Int32} (Z : Zx X G cX13_spelled RX13 8 dk (some .long) (some (.long r0)) g h0) (hK : 0 ≤ dk) (s0 : Int64) (hf : pX13_spelled_b91 p0 p1 p2 p3 p4 p5 s0 = r0) : J X g h0 91 [(5, .int p5)] [.long s0] := by
  unfold pX13_spelled_b91 at hf
  refine J_lstore Z.1 (lv2 := [(6, .long s0), (5, .int p5)]) dX13_spelled_91 (zL Z (by decide)) rfl ?_
  refine J_iload Z.1 1 dX13_spelled_93 rfl ?_
  refine J_if_le Z.1 115 dX13_spelled_95 (by decide) (fun c1 => ?_) (fun c1 => ?_)
  · rw [if_pos c1] at hf
    refine J_lload Z.1 0 dX13_spelled_115 rfl ?_
    cases hf
    exact J_lret Z.1 Z.2.2.2.2.2 dX13_spelled_117
  · rw [if_neg c1] at hf
    refine J_lload Z.1 0 dX13_spelled_98 rfl ?_
    refine J_ldc2 Z.1 q_1635 dX13_spelled_100 ?_
    refine J_lmul Z.1 dX13_spelled_103 ?_
    refine J_iload Z.1 1 dX13_spelled_104 rfl ?_
    refine J_i2l Z.1 dX13_spelled_106 ?_
    refine J_ladd Z.1 dX13_spelled_107 ?_
    refine J_ldc2 Z.1 q_1636 dX13_spelled_108 ?_
    refine J_lsub Z.1 dX13_spelled_111 ?_
    refine J_goto Z.1 117 dX13_spelled_112 (by decide) ?_
    cases hf
    exact J_lret Z.1 Z.2.2.2.2.2 dX13_spelled_117
def pX13_spelled_b65 (p0 : Int32) (p1 : Int32) (p2 : Int32) (p3 : Int32) (p4 : Int32) (p5 : Int32) (s0 : Int64) : Int64 := if p4 ≤ 0 then pX13_spelled_b91 p0 p1 p2 p3 p4 p5  s0 else pX13_spelled_b91 p0 p1 p2 p3 p4 p5  (((s0 * 32) + (Int32.toInt64 p4)) - 96)
set_option maxRecDepth 10000 in
set_option maxHeartbeats 4000000 in
theorem pX13_spelled_b65_ok {X : Cx} {G : Gx} {dk : Nat} {g : MT} {r0 : Int64} {h0 : CT} {p0 : Int32} {p1 : Int32} {p2 : Int32} {p3 : Int32} {p4 : Int32} {p5 : Int32} (Z : Zx X G cX13_spelled RX13 8 dk (some .long) (some (.long r0)) g h0) (hK : 0 ≤ dk) (s0 : Int64) (hf : pX13_spelled_b65 p0 p1 p2 p3 p4 p5 s0 = r0) : J X g h0 65 [(4, .int p4), (5, .int p5)] [.long s0] := by
  unfold pX13_spelled_b65 at hf
  refine J_lstore Z.1 (lv2 := [(6, .long s0), (4, .int p4), (5, .int p5)]) dX13_spelled_65 (zL Z (by decide)) rfl ?_
  refine J_iload Z.1 1 dX13_spelled_67 rfl ?_
  refine J_if_le Z.1 89 dX13_spelled_69 (by decide) (fun c1 => ?_) (fun c1 => ?_)
  · rw [if_pos c1] at hf
    refine J_lload Z.1 0 dX13_spelled_89 rfl ?_
    refine J_lv [2] rfl ?_
    exact pX13_spelled_b91_ok Z hK  _ hf
  · rw [if_neg c1] at hf
    refine J_lload Z.1 0 dX13_spelled_72 rfl ?_
    refine J_ldc2 Z.1 q_1635 dX13_spelled_74 ?_
    refine J_lmul Z.1 dX13_spelled_77 ?_
    refine J_iload Z.1 1 dX13_spelled_78 rfl ?_
    refine J_i2l Z.1 dX13_spelled_80 ?_
    refine J_ladd Z.1 dX13_spelled_81 ?_
    refine J_ldc2 Z.1 q_1636 dX13_spelled_82 ?_
    refine J_lsub Z.1 dX13_spelled_85 ?_
    refine J_goto Z.1 91 dX13_spelled_86 (by decide) ?_
    refine J_lv [2] rfl ?_
    exact pX13_spelled_b91_ok Z hK  _ hf
def pX13_spelled_b41 (p0 : Int32) (p1 : Int32) (p2 : Int32) (p3 : Int32) (p4 : Int32) (p5 : Int32) (s0 : Int64) : Int64 := if p3 ≤ 0 then pX13_spelled_b65 p0 p1 p2 p3 p4 p5  s0 else pX13_spelled_b65 p0 p1 p2 p3 p4 p5  (((s0 * 32) + (Int32.toInt64 p3)) - 96)
set_option maxRecDepth 10000 in
set_option maxHeartbeats 4000000 in
theorem pX13_spelled_b41_ok {X : Cx} {G : Gx} {dk : Nat} {g : MT} {r0 : Int64} {h0 : CT} {p0 : Int32} {p1 : Int32} {p2 : Int32} {p3 : Int32} {p4 : Int32} {p5 : Int32} (Z : Zx X G cX13_spelled RX13 8 dk (some .long) (some (.long r0)) g h0) (hK : 0 ≤ dk) (s0 : Int64) (hf : pX13_spelled_b41 p0 p1 p2 p3 p4 p5 s0 = r0) : J X g h0 41 [(3, .int p3), (4, .int p4), (5, .int p5)] [.long s0] := by
  unfold pX13_spelled_b41 at hf
  refine J_lstore Z.1 (lv2 := [(6, .long s0), (3, .int p3), (4, .int p4), (5, .int p5)]) dX13_spelled_41 (zL Z (by decide)) rfl ?_
  refine J_iload_n Z.1 1 dX13_spelled_43 rfl rfl ?_
  refine J_if_le Z.1 63 dX13_spelled_44 (by decide) (fun c1 => ?_) (fun c1 => ?_)
  · rw [if_pos c1] at hf
    refine J_lload Z.1 0 dX13_spelled_63 rfl ?_
    refine J_lv [2, 3] rfl ?_
    exact pX13_spelled_b65_ok Z hK  _ hf
  · rw [if_neg c1] at hf
    refine J_lload Z.1 0 dX13_spelled_47 rfl ?_
    refine J_ldc2 Z.1 q_1635 dX13_spelled_49 ?_
    refine J_lmul Z.1 dX13_spelled_52 ?_
    refine J_iload_n Z.1 1 dX13_spelled_53 rfl rfl ?_
    refine J_i2l Z.1 dX13_spelled_54 ?_
    refine J_ladd Z.1 dX13_spelled_55 ?_
    refine J_ldc2 Z.1 q_1636 dX13_spelled_56 ?_
    refine J_lsub Z.1 dX13_spelled_59 ?_
    refine J_goto Z.1 65 dX13_spelled_60 (by decide) ?_
    refine J_lv [2, 3] rfl ?_
    exact pX13_spelled_b65_ok Z hK  _ hf
def pX13_spelled (p0 : Int32) (p1 : Int32) (p2 : Int32) (p3 : Int32) (p4 : Int32) (p5 : Int32) : Int64 := lt (((((Int32.toInt64 p0) - 96) * 32) + (Int32.toInt64 p1)) - 96) fun x1 => (if p2 ≤ 0 then pX13_spelled_b41 p0 p1 p2 p3 p4 p5  x1 else pX13_spelled_b41 p0 p1 p2 p3 p4 p5  (((x1 * 32) + (Int32.toInt64 p2)) - 96))
set_option maxRecDepth 10000 in
set_option maxHeartbeats 4000000 in
theorem pX13_spelled_ok (G : Gx) (dk : Nat) (hK : 0 ≤ dk) (g : MT) (h0 : CT) (p0 : Int32) (p1 : Int32) (p2 : Int32) (p3 : Int32) (p4 : Int32) (p5 : Int32) : Ctr G dk yX13_spelled cX13_spelled 8 (some .long) [.int p0, .int p1, .int p2, .int p3, .int p4, .int p5] g h0 (some (.long (pX13_spelled p0 p1 p2 p3 p4 p5))) g h0 := by
  obtain ⟨r0, hf⟩ : ∃ z, pX13_spelled p0 p1 p2 p3 p4 p5 = z := ⟨_, rfl⟩
  rw [hf]
  refine Ctr.ofZ (lv := [(0, .int p0), (1, .int p1), (2, .int p2), (3, .int p3), (4, .int p4), (5, .int p5)]) (by decide +kernel) (by simp [cat_i, cat_l, cat_d, cat_rf]) rfl fun X Z => ?_
  unfold pX13_spelled at hf
  refine J_iload_n Z.1 0 dX13_spelled_0 rfl rfl ?_
  refine J_i2l Z.1 dX13_spelled_1 ?_
  refine J_ldc2 Z.1 q_1636 dX13_spelled_2 ?_
  refine J_lsub Z.1 dX13_spelled_5 ?_
  refine J_ldc2 Z.1 q_1635 dX13_spelled_6 ?_
  refine J_lmul Z.1 dX13_spelled_9 ?_
  refine J_iload_n Z.1 1 dX13_spelled_10 rfl rfl ?_
  refine J_i2l Z.1 dX13_spelled_11 ?_
  refine J_ladd Z.1 dX13_spelled_12 ?_
  refine J_ldc2 Z.1 q_1636 dX13_spelled_13 ?_
  refine J_lsub Z.1 dX13_spelled_16 ?_
  refine J_tl (fun x1 ex1 => ?_)
  replace hf := lt_i hf x1 ex1
  refine J_lstore Z.1 (lv2 := [(6, .long x1), (0, .int p0), (1, .int p1), (2, .int p2), (3, .int p3), (4, .int p4), (5, .int p5)]) dX13_spelled_17 (zL Z (by decide)) rfl ?_
  refine J_iload_n Z.1 3 dX13_spelled_19 rfl rfl ?_
  refine J_if_le Z.1 39 dX13_spelled_20 (by decide) (fun c2 => ?_) (fun c2 => ?_)
  · rw [if_pos c2] at hf
    refine J_lload Z.1 0 dX13_spelled_39 rfl ?_
    refine J_lv [4, 5, 6] rfl ?_
    exact pX13_spelled_b41_ok Z hK  _ hf
  · rw [if_neg c2] at hf
    refine J_lload Z.1 0 dX13_spelled_23 rfl ?_
    refine J_ldc2 Z.1 q_1635 dX13_spelled_25 ?_
    refine J_lmul Z.1 dX13_spelled_28 ?_
    refine J_iload_n Z.1 3 dX13_spelled_29 rfl rfl ?_
    refine J_i2l Z.1 dX13_spelled_30 ?_
    refine J_ladd Z.1 dX13_spelled_31 ?_
    refine J_ldc2 Z.1 q_1636 dX13_spelled_32 ?_
    refine J_lsub Z.1 dX13_spelled_35 ?_
    refine J_goto Z.1 41 dX13_spelled_36 (by decide) ?_
    refine J_lv [4, 5, 6] rfl ?_
    exact pX13_spelled_b41_ok Z hK  _ hf
theorem dX13_isWord_0 : decode cX13_isWord 0 = .ok (.aload_n 0, 1) := by decide +kernel
theorem dX13_isWord_1 : decode cX13_isWord 1 = .ok (.getfield 142, 3) := by decide +kernel
theorem dX13_isWord_4 : decode cX13_isWord 4 = .ok (.iconst 1, 1) := by decide +kernel
theorem dX13_isWord_5 : decode cX13_isWord 5 = .ok (.if_icmp .ne 16, 3) := by decide +kernel
theorem dX13_isWord_8 : decode cX13_isWord 8 = .ok (.aload_n 0, 1) := by decide +kernel
theorem dX13_isWord_9 : decode cX13_isWord 9 = .ok (.getfield 148, 3) := by decide +kernel
theorem dX13_isWord_12 : decode cX13_isWord 12 = .ok (.lload_n 1, 1) := by decide +kernel
theorem dX13_isWord_13 : decode cX13_isWord 13 = .ok (.lcmp, 1) := by decide +kernel
theorem dX13_isWord_14 : decode cX13_isWord 14 = .ok (.ifCond .ne 7, 3) := by decide +kernel
theorem dX13_isWord_17 : decode cX13_isWord 17 = .ok (.iconst 1, 1) := by decide +kernel
theorem dX13_isWord_18 : decode cX13_isWord 18 = .ok (.goto 4, 3) := by decide +kernel
theorem dX13_isWord_21 : decode cX13_isWord 21 = .ok (.iconst 0, 1) := by decide +kernel
theorem dX13_isWord_22 : decode cX13_isWord 22 = .ok (.ireturn, 1) := by decide +kernel
def pX13_isWord (g : MT) (h : CT) (this : Nat) (p1 : Int64) : Option Int32 := tg g this 12 (if (hI h this 14) = 1 then if (lg_cmp (hL h this 18) p1) = 0 then some 1 else some 0 else some 0)
set_option maxRecDepth 10000 in
set_option maxHeartbeats 4000000 in
theorem pX13_isWord_ok (G : Gx) (dk : Nat) (hK : 0 ≤ dk) {g : MT} {h : CT} {this : Nat} {p1 : Int64} {r0 : Int32} (hf : pX13_isWord g h this p1 = some r0) : Ctr G dk yX13_isWord cX13_isWord 3 (some .boolean) [va_rf (some this), .long p1] g h (some (.int r0)) g h := by
  refine Ctr.ofZ (lv := [(0, va_rf (some this)), (1, .long p1)]) (by decide +kernel) (by simp [cat_i, cat_l, cat_d, cat_rf]) rfl fun X Z => ?_
  unfold pX13_isWord at hf
  obtain ⟨t0, hf⟩ := tg_i hf
  refine J_aload_n Z.1 0 dX13_isWord_0 rfl rfl ?_
  refine J_get (v := .int (hI h this 14)) Z.1 dX13_isWord_1 fl_X13_142 t0 rfl ?_
  refine J_iconst Z.1 (v := 1) (by decide) dX13_isWord_4 ?_
  refine J_icmp_ne Z.1 21 dX13_isWord_5 (by decide) (fun c1 => ?_) (fun c1 => ?_)
  · rw [if_neg c1] at hf
    refine J_iconst Z.1 (v := 0) (by decide) dX13_isWord_21 ?_
    cases hf
    exact J_zret Z.1 Z.2.2.2.2.2 (z_n (Or.inl rfl)) dX13_isWord_22
  · rw [if_pos c1] at hf
    refine J_aload_n Z.1 0 dX13_isWord_8 rfl rfl ?_
    refine J_get (v := .long (hL h this 18)) Z.1 dX13_isWord_9 fl_X13_148 t0 rfl ?_
    refine J_lload_n Z.1 1 dX13_isWord_12 rfl rfl ?_
    refine J_lcmp Z.1 dX13_isWord_13 ?_
    refine J_if_ne Z.1 21 dX13_isWord_14 (by decide) (fun c2 => ?_) (fun c2 => ?_)
    · rw [if_neg c2] at hf
      refine J_iconst Z.1 (v := 0) (by decide) dX13_isWord_21 ?_
      cases hf
      exact J_zret Z.1 Z.2.2.2.2.2 (z_n (Or.inl rfl)) dX13_isWord_22
    · rw [if_pos c2] at hf
      refine J_iconst Z.1 (v := 1) (by decide) dX13_isWord_17 ?_
      refine J_goto Z.1 22 dX13_isWord_18 (by decide) ?_
      cases hf
      exact J_zret Z.1 Z.2.2.2.2.2 (z_n (Or.inr rfl)) dX13_isWord_22
theorem dX13_isAt_0 : decode cX13_isAt 0 = .ok (.aload_n 0, 1) := by decide +kernel
theorem dX13_isAt_1 : decode cX13_isAt 1 = .ok (.bipush 97, 2) := by decide +kernel
theorem dX13_isAt_3 : decode cX13_isAt 3 = .ok (.bipush 116, 2) := by decide +kernel
theorem dX13_isAt_5 : decode cX13_isAt 5 = .ok (.iconst 0, 1) := by decide +kernel
theorem dX13_isAt_6 : decode cX13_isAt 6 = .ok (.iconst 0, 1) := by decide +kernel
theorem dX13_isAt_7 : decode cX13_isAt 7 = .ok (.iconst 0, 1) := by decide +kernel
theorem dX13_isAt_8 : decode cX13_isAt 8 = .ok (.iconst 0, 1) := by decide +kernel
theorem dX13_isAt_9 : decode cX13_isAt 9 = .ok (.invokestatic 161, 3) := by decide +kernel
theorem dX13_isAt_12 : decode cX13_isAt 12 = .ok (.invokevirtual 165, 3) := by decide +kernel
theorem dX13_isAt_15 : decode cX13_isAt 15 = .ok (.ireturn, 1) := by decide +kernel
def pX13_isAt (g : MT) (h : CT) (this : Nat) : Option Int32 := tg g this 12 (bd (pX13_isWord g h this (pX13_spelled 97 116 0 0 0 0)) fun x1 => (bz x1 (some x1)))
set_option maxRecDepth 10000 in
set_option maxHeartbeats 4000000 in
theorem pX13_isAt_ok (G : Gx) (dk : Nat) (hK : 1 ≤ dk) {g : MT} {h : CT} {this : Nat} {r0 : Int32} (hf : pX13_isAt g h this = some r0) : Ctr G dk yX13_isAt cX13_isAt 1 (some .boolean) [va_rf (some this)] g h (some (.int r0)) g h := by
  refine Ctr.ofZ (lv := [(0, va_rf (some this))]) (by decide +kernel) (by simp [cat_i, cat_l, cat_d, cat_rf]) rfl fun X Z => ?_
  unfold pX13_isAt at hf
  obtain ⟨t0, hf⟩ := tg_i hf
  refine J_aload_n Z.1 0 dX13_isAt_0 rfl rfl ?_
  refine J_bipush Z.1 (v := 97) (by decide) dX13_isAt_1 ?_
  refine J_bipush Z.1 (v := 116) (by decide) dX13_isAt_3 ?_
  refine J_iconst Z.1 (v := 0) (by decide) dX13_isAt_5 ?_
  refine J_iconst Z.1 (v := 0) (by decide) dX13_isAt_6 ?_
  refine J_iconst Z.1 (v := 0) (by decide) dX13_isAt_7 ?_
  refine J_iconst Z.1 (v := 0) (by decide) dX13_isAt_8 ?_
  refine J_callS (as := [.int 97, .int 116, .int 0, .int 0, .int 0, .int 0]) (rest := [va_rf (some this)]) (sy := [.long (pX13_spelled 97 116 0 0 0 0), va_rf (some this)]) Z.1 dX13_isAt_9 cw_X13_161 (pX13_spelled_ok G (dk - 1) (by omega) g h 97 116 0 0 0 0) (zG Z) rfl (by simp [cat_i, cat_l, cat_d, cat_rf]) (zF Z (by omega)) (zO Z (by omega) (by decide)) (zM _) Z.2.1 Z.2.1 rfl rfl ?_
  obtain ⟨x1, q2, hf⟩ := bd_i hf
  refine J_callV (ci := 11) (as := [.long (pX13_spelled 97 116 0 0 0 0)]) (rest := []) (sy := [.int x1]) Z.1 dX13_isAt_12 cw_X13_165 (pX13_isWord_ok G (dk - 1) (by omega) q2) rfl rfl t0 (zG Z) rfl (by decide) (zF Z (by omega)) (zO Z (by omega) (by decide)) (zM _) Z.2.1 Z.2.1 rfl rfl ?_
  obtain ⟨z3, hf⟩ := bz_i hf
  cases hf
  exact J_zret Z.1 Z.2.2.2.2.2 (z_n z3) dX13_isAt_15
theorem dX13_isBy_0 : decode cX13_isBy 0 = .ok (.aload_n 0, 1) := by decide +kernel
theorem dX13_isBy_1 : decode cX13_isBy 1 = .ok (.bipush 98, 2) := by decide +kernel
theorem dX13_isBy_3 : decode cX13_isBy 3 = .ok (.bipush 121, 2) := by decide +kernel
theorem dX13_isBy_5 : decode cX13_isBy 5 = .ok (.iconst 0, 1) := by decide +kernel
theorem dX13_isBy_6 : decode cX13_isBy 6 = .ok (.iconst 0, 1) := by decide +kernel
theorem dX13_isBy_7 : decode cX13_isBy 7 = .ok (.iconst 0, 1) := by decide +kernel
theorem dX13_isBy_8 : decode cX13_isBy 8 = .ok (.iconst 0, 1) := by decide +kernel
theorem dX13_isBy_9 : decode cX13_isBy 9 = .ok (.invokestatic 161, 3) := by decide +kernel
theorem dX13_isBy_12 : decode cX13_isBy 12 = .ok (.invokevirtual 165, 3) := by decide +kernel
theorem dX13_isBy_15 : decode cX13_isBy 15 = .ok (.ireturn, 1) := by decide +kernel
def pX13_isBy (g : MT) (h : CT) (this : Nat) : Option Int32 := tg g this 12 (bd (pX13_isWord g h this (pX13_spelled 98 121 0 0 0 0)) fun x1 => (bz x1 (some x1)))
set_option maxRecDepth 10000 in
set_option maxHeartbeats 4000000 in
theorem pX13_isBy_ok (G : Gx) (dk : Nat) (hK : 1 ≤ dk) {g : MT} {h : CT} {this : Nat} {r0 : Int32} (hf : pX13_isBy g h this = some r0) : Ctr G dk yX13_isBy cX13_isBy 1 (some .boolean) [va_rf (some this)] g h (some (.int r0)) g h := by
  refine Ctr.ofZ (lv := [(0, va_rf (some this))]) (by decide +kernel) (by simp [cat_i, cat_l, cat_d, cat_rf]) rfl fun X Z => ?_
  unfold pX13_isBy at hf
  obtain ⟨t0, hf⟩ := tg_i hf
  refine J_aload_n Z.1 0 dX13_isBy_0 rfl rfl ?_
  refine J_bipush Z.1 (v := 98) (by decide) dX13_isBy_1 ?_
  refine J_bipush Z.1 (v := 121) (by decide) dX13_isBy_3 ?_
  refine J_iconst Z.1 (v := 0) (by decide) dX13_isBy_5 ?_
  refine J_iconst Z.1 (v := 0) (by decide) dX13_isBy_6 ?_
  refine J_iconst Z.1 (v := 0) (by decide) dX13_isBy_7 ?_
  refine J_iconst Z.1 (v := 0) (by decide) dX13_isBy_8 ?_
  refine J_callS (as := [.int 98, .int 121, .int 0, .int 0, .int 0, .int 0]) (rest := [va_rf (some this)]) (sy := [.long (pX13_spelled 98 121 0 0 0 0), va_rf (some this)]) Z.1 dX13_isBy_9 cw_X13_161 (pX13_spelled_ok G (dk - 1) (by omega) g h 98 121 0 0 0 0) (zG Z) rfl (by simp [cat_i, cat_l, cat_d, cat_rf]) (zF Z (by omega)) (zO Z (by omega) (by decide)) (zM _) Z.2.1 Z.2.1 rfl rfl ?_
  obtain ⟨x1, q2, hf⟩ := bd_i hf
  refine J_callV (ci := 11) (as := [.long (pX13_spelled 98 121 0 0 0 0)]) (rest := []) (sy := [.int x1]) Z.1 dX13_isBy_12 cw_X13_165 (pX13_isWord_ok G (dk - 1) (by omega) q2) rfl rfl t0 (zG Z) rfl (by decide) (zF Z (by omega)) (zO Z (by omega) (by decide)) (zM _) Z.2.1 Z.2.1 rfl rfl ?_
  obtain ⟨z3, hf⟩ := bz_i hf
  cases hf
  exact J_zret Z.1 Z.2.2.2.2.2 (z_n z3) dX13_isBy_15
theorem dX13_isOf_0 : decode cX13_isOf 0 = .ok (.aload_n 0, 1) := by decide +kernel
theorem dX13_isOf_1 : decode cX13_isOf 1 = .ok (.bipush 111, 2) := by decide +kernel
theorem dX13_isOf_3 : decode cX13_isOf 3 = .ok (.bipush 102, 2) := by decide +kernel
theorem dX13_isOf_5 : decode cX13_isOf 5 = .ok (.iconst 0, 1) := by decide +kernel
theorem dX13_isOf_6 : decode cX13_isOf 6 = .ok (.iconst 0, 1) := by decide +kernel
theorem dX13_isOf_7 : decode cX13_isOf 7 = .ok (.iconst 0, 1) := by decide +kernel
theorem dX13_isOf_8 : decode cX13_isOf 8 = .ok (.iconst 0, 1) := by decide +kernel
theorem dX13_isOf_9 : decode cX13_isOf 9 = .ok (.invokestatic 161, 3) := by decide +kernel
theorem dX13_isOf_12 : decode cX13_isOf 12 = .ok (.invokevirtual 165, 3) := by decide +kernel
theorem dX13_isOf_15 : decode cX13_isOf 15 = .ok (.ireturn, 1) := by decide +kernel
def pX13_isOf (g : MT) (h : CT) (this : Nat) : Option Int32 := tg g this 12 (bd (pX13_isWord g h this (pX13_spelled 111 102 0 0 0 0)) fun x1 => (bz x1 (some x1)))
set_option maxRecDepth 10000 in
set_option maxHeartbeats 4000000 in
theorem pX13_isOf_ok (G : Gx) (dk : Nat) (hK : 1 ≤ dk) {g : MT} {h : CT} {this : Nat} {r0 : Int32} (hf : pX13_isOf g h this = some r0) : Ctr G dk yX13_isOf cX13_isOf 1 (some .boolean) [va_rf (some this)] g h (some (.int r0)) g h := by
  refine Ctr.ofZ (lv := [(0, va_rf (some this))]) (by decide +kernel) (by simp [cat_i, cat_l, cat_d, cat_rf]) rfl fun X Z => ?_
  unfold pX13_isOf at hf
  obtain ⟨t0, hf⟩ := tg_i hf
  refine J_aload_n Z.1 0 dX13_isOf_0 rfl rfl ?_
  refine J_bipush Z.1 (v := 111) (by decide) dX13_isOf_1 ?_
  refine J_bipush Z.1 (v := 102) (by decide) dX13_isOf_3 ?_
  refine J_iconst Z.1 (v := 0) (by decide) dX13_isOf_5 ?_
  refine J_iconst Z.1 (v := 0) (by decide) dX13_isOf_6 ?_
  refine J_iconst Z.1 (v := 0) (by decide) dX13_isOf_7 ?_
  refine J_iconst Z.1 (v := 0) (by decide) dX13_isOf_8 ?_
  refine J_callS (as := [.int 111, .int 102, .int 0, .int 0, .int 0, .int 0]) (rest := [va_rf (some this)]) (sy := [.long (pX13_spelled 111 102 0 0 0 0), va_rf (some this)]) Z.1 dX13_isOf_9 cw_X13_161 (pX13_spelled_ok G (dk - 1) (by omega) g h 111 102 0 0 0 0) (zG Z) rfl (by simp [cat_i, cat_l, cat_d, cat_rf]) (zF Z (by omega)) (zO Z (by omega) (by decide)) (zM _) Z.2.1 Z.2.1 rfl rfl ?_
  obtain ⟨x1, q2, hf⟩ := bd_i hf
  refine J_callV (ci := 11) (as := [.long (pX13_spelled 111 102 0 0 0 0)]) (rest := []) (sy := [.int x1]) Z.1 dX13_isOf_12 cw_X13_165 (pX13_isWord_ok G (dk - 1) (by omega) q2) rfl rfl t0 (zG Z) rfl (by decide) (zF Z (by omega)) (zO Z (by omega) (by decide)) (zM _) Z.2.1 Z.2.1 rfl rfl ?_
  obtain ⟨z3, hf⟩ := bz_i hf
  cases hf
  exact J_zret Z.1 Z.2.2.2.2.2 (z_n z3) dX13_isOf_15
theorem dX13_isMasked_0 : decode cX13_isMasked 0 = .ok (.aload_n 0, 1) := by decide +kernel
theorem dX13_isMasked_1 : decode cX13_isMasked 1 = .ok (.bipush 109, 2) := by decide +kernel
theorem dX13_isMasked_3 : decode cX13_isMasked 3 = .ok (.bipush 97, 2) := by decide +kernel
theorem dX13_isMasked_5 : decode cX13_isMasked 5 = .ok (.bipush 115, 2) := by decide +kernel
theorem dX13_isMasked_7 : decode cX13_isMasked 7 = .ok (.bipush 107, 2) := by decide +kernel
theorem dX13_isMasked_9 : decode cX13_isMasked 9 = .ok (.bipush 101, 2) := by decide +kernel
theorem dX13_isMasked_11 : decode cX13_isMasked 11 = .ok (.bipush 100, 2) := by decide +kernel
theorem dX13_isMasked_13 : decode cX13_isMasked 13 = .ok (.invokestatic 161, 3) := by decide +kernel
theorem dX13_isMasked_16 : decode cX13_isMasked 16 = .ok (.invokevirtual 165, 3) := by decide +kernel
theorem dX13_isMasked_19 : decode cX13_isMasked 19 = .ok (.ireturn, 1) := by decide +kernel
def pX13_isMasked (g : MT) (h : CT) (this : Nat) : Option Int32 := tg g this 12 (bd (pX13_isWord g h this (pX13_spelled 109 97 115 107 101 100)) fun x1 => (bz x1 (some x1)))
set_option maxRecDepth 10000 in
set_option maxHeartbeats 4000000 in
theorem pX13_isMasked_ok (G : Gx) (dk : Nat) (hK : 1 ≤ dk) {g : MT} {h : CT} {this : Nat} {r0 : Int32} (hf : pX13_isMasked g h this = some r0) : Ctr G dk yX13_isMasked cX13_isMasked 1 (some .boolean) [va_rf (some this)] g h (some (.int r0)) g h := by
  refine Ctr.ofZ (lv := [(0, va_rf (some this))]) (by decide +kernel) (by simp [cat_i, cat_l, cat_d, cat_rf]) rfl fun X Z => ?_
  unfold pX13_isMasked at hf
  obtain ⟨t0, hf⟩ := tg_i hf
  refine J_aload_n Z.1 0 dX13_isMasked_0 rfl rfl ?_
  refine J_bipush Z.1 (v := 109) (by decide) dX13_isMasked_1 ?_
  refine J_bipush Z.1 (v := 97) (by decide) dX13_isMasked_3 ?_
  refine J_bipush Z.1 (v := 115) (by decide) dX13_isMasked_5 ?_
  refine J_bipush Z.1 (v := 107) (by decide) dX13_isMasked_7 ?_
  refine J_bipush Z.1 (v := 101) (by decide) dX13_isMasked_9 ?_
  refine J_bipush Z.1 (v := 100) (by decide) dX13_isMasked_11 ?_
  refine J_callS (as := [.int 109, .int 97, .int 115, .int 107, .int 101, .int 100]) (rest := [va_rf (some this)]) (sy := [.long (pX13_spelled 109 97 115 107 101 100), va_rf (some this)]) Z.1 dX13_isMasked_13 cw_X13_161 (pX13_spelled_ok G (dk - 1) (by omega) g h 109 97 115 107 101 100) (zG Z) rfl (by simp [cat_i, cat_l, cat_d, cat_rf]) (zF Z (by omega)) (zO Z (by omega) (by decide)) (zM _) Z.2.1 Z.2.1 rfl rfl ?_
  obtain ⟨x1, q2, hf⟩ := bd_i hf
  refine J_callV (ci := 11) (as := [.long (pX13_spelled 109 97 115 107 101 100)]) (rest := []) (sy := [.int x1]) Z.1 dX13_isMasked_16 cw_X13_165 (pX13_isWord_ok G (dk - 1) (by omega) q2) rfl rfl t0 (zG Z) rfl (by decide) (zF Z (by omega)) (zO Z (by omega) (by decide)) (zM _) Z.2.1 Z.2.1 rfl rfl ?_
  obtain ⟨z3, hf⟩ := bz_i hf
  cases hf
  exact J_zret Z.1 Z.2.2.2.2.2 (z_n z3) dX13_isMasked_19
theorem dX13_isEnd_0 : decode cX13_isEnd 0 = .ok (.aload_n 0, 1) := by decide +kernel
theorem dX13_isEnd_1 : decode cX13_isEnd 1 = .ok (.bipush 101, 2) := by decide +kernel
theorem dX13_isEnd_3 : decode cX13_isEnd 3 = .ok (.bipush 110, 2) := by decide +kernel
theorem dX13_isEnd_5 : decode cX13_isEnd 5 = .ok (.bipush 100, 2) := by decide +kernel
theorem dX13_isEnd_7 : decode cX13_isEnd 7 = .ok (.iconst 0, 1) := by decide +kernel
theorem dX13_isEnd_8 : decode cX13_isEnd 8 = .ok (.iconst 0, 1) := by decide +kernel
theorem dX13_isEnd_9 : decode cX13_isEnd 9 = .ok (.iconst 0, 1) := by decide +kernel
theorem dX13_isEnd_10 : decode cX13_isEnd 10 = .ok (.invokestatic 161, 3) := by decide +kernel
theorem dX13_isEnd_13 : decode cX13_isEnd 13 = .ok (.invokevirtual 165, 3) := by decide +kernel
theorem dX13_isEnd_16 : decode cX13_isEnd 16 = .ok (.ireturn, 1) := by decide +kernel
def pX13_isEnd (g : MT) (h : CT) (this : Nat) : Option Int32 := tg g this 12 (bd (pX13_isWord g h this (pX13_spelled 101 110 100 0 0 0)) fun x1 => (bz x1 (some x1)))
set_option maxRecDepth 10000 in
set_option maxHeartbeats 4000000 in
theorem pX13_isEnd_ok (G : Gx) (dk : Nat) (hK : 1 ≤ dk) {g : MT} {h : CT} {this : Nat} {r0 : Int32} (hf : pX13_isEnd g h this = some r0) : Ctr G dk yX13_isEnd cX13_isEnd 1 (some .boolean) [va_rf (some this)] g h (some (.int r0)) g h := by
  refine Ctr.ofZ (lv := [(0, va_rf (some this))]) (by decide +kernel) (by simp [cat_i, cat_l, cat_d, cat_rf]) rfl fun X Z => ?_
  unfold pX13_isEnd at hf
  obtain ⟨t0, hf⟩ := tg_i hf
  refine J_aload_n Z.1 0 dX13_isEnd_0 rfl rfl ?_
  refine J_bipush Z.1 (v := 101) (by decide) dX13_isEnd_1 ?_
  refine J_bipush Z.1 (v := 110) (by decide) dX13_isEnd_3 ?_
  refine J_bipush Z.1 (v := 100) (by decide) dX13_isEnd_5 ?_
  refine J_iconst Z.1 (v := 0) (by decide) dX13_isEnd_7 ?_
  refine J_iconst Z.1 (v := 0) (by decide) dX13_isEnd_8 ?_
  refine J_iconst Z.1 (v := 0) (by decide) dX13_isEnd_9 ?_
  refine J_callS (as := [.int 101, .int 110, .int 100, .int 0, .int 0, .int 0]) (rest := [va_rf (some this)]) (sy := [.long (pX13_spelled 101 110 100 0 0 0), va_rf (some this)]) Z.1 dX13_isEnd_10 cw_X13_161 (pX13_spelled_ok G (dk - 1) (by omega) g h 101 110 100 0 0 0) (zG Z) rfl (by simp [cat_i, cat_l, cat_d, cat_rf]) (zF Z (by omega)) (zO Z (by omega) (by decide)) (zM _) Z.2.1 Z.2.1 rfl rfl ?_
  obtain ⟨x1, q2, hf⟩ := bd_i hf
  refine J_callV (ci := 11) (as := [.long (pX13_spelled 101 110 100 0 0 0)]) (rest := []) (sy := [.int x1]) Z.1 dX13_isEnd_13 cw_X13_165 (pX13_isWord_ok G (dk - 1) (by omega) q2) rfl rfl t0 (zG Z) rfl (by decide) (zF Z (by omega)) (zO Z (by omega) (by decide)) (zM _) Z.2.1 Z.2.1 rfl rfl ?_
  obtain ⟨z3, hf⟩ := bz_i hf
  cases hf
  exact J_zret Z.1 Z.2.2.2.2.2 (z_n z3) dX13_isEnd_16
theorem dX13_lettered_0 : decode cX13_lettered 0 = .ok (.aload_n 0, 1) := by decide +kernel
theorem dX13_lettered_1 : decode cX13_lettered 1 = .ok (.getfield 142, 3) := by decide +kernel
theorem dX13_lettered_4 : decode cX13_lettered 4 = .ok (.iconst 1, 1) := by decide +kernel
theorem dX13_lettered_5 : decode cX13_lettered 5 = .ok (.if_icmp .ne 28, 3) := by decide +kernel
theorem dX13_lettered_8 : decode cX13_lettered 8 = .ok (.aload_n 0, 1) := by decide +kernel
theorem dX13_lettered_9 : decode cX13_lettered 9 = .ok (.getfield 133, 3) := by decide +kernel
theorem dX13_lettered_12 : decode cX13_lettered 12 = .ok (.aload_n 0, 1) := by decide +kernel
theorem dX13_lettered_13 : decode cX13_lettered 13 = .ok (.getfield 136, 3) := by decide +kernel
theorem dX13_lettered_16 : decode cX13_lettered 16 = .ok (.isub, 1) := by decide +kernel
theorem dX13_lettered_17 : decode cX13_lettered 17 = .ok (.iconst 2, 1) := by decide +kernel
theorem dX13_lettered_18 : decode cX13_lettered 18 = .ok (.if_icmp .ne 15, 3) := by decide +kernel
theorem dX13_lettered_21 : decode cX13_lettered 21 = .ok (.aload_n 0, 1) := by decide +kernel
theorem dX13_lettered_22 : decode cX13_lettered 22 = .ok (.aload_n 0, 1) := by decide +kernel
theorem dX13_lettered_23 : decode cX13_lettered 23 = .ok (.getfield 136, 3) := by decide +kernel
theorem dX13_lettered_26 : decode cX13_lettered 26 = .ok (.invokevirtual 139, 3) := by decide +kernel
theorem dX13_lettered_29 : decode cX13_lettered 29 = .ok (.iload_n 1, 1) := by decide +kernel
theorem dX13_lettered_30 : decode cX13_lettered 30 = .ok (.if_icmp .eq 5, 3) := by decide +kernel
theorem dX13_lettered_33 : decode cX13_lettered 33 = .ok (.iconst (-1), 1) := by decide +kernel
theorem dX13_lettered_34 : decode cX13_lettered 34 = .ok (.ireturn, 1) := by decide +kernel
theorem dX13_lettered_35 : decode cX13_lettered 35 = .ok (.aload_n 0, 1) := by decide +kernel
theorem dX13_lettered_36 : decode cX13_lettered 36 = .ok (.aload_n 0, 1) := by decide +kernel
theorem dX13_lettered_37 : decode cX13_lettered 37 = .ok (.getfield 136, 3) := by decide +kernel
theorem dX13_lettered_40 : decode cX13_lettered 40 = .ok (.iconst 1, 1) := by decide +kernel
theorem dX13_lettered_41 : decode cX13_lettered 41 = .ok (.iadd, 1) := by decide +kernel
theorem dX13_lettered_42 : decode cX13_lettered 42 = .ok (.invokevirtual 139, 3) := by decide +kernel
theorem dX13_lettered_45 : decode cX13_lettered 45 = .ok (.bipush 97, 2) := by decide +kernel
theorem dX13_lettered_47 : decode cX13_lettered 47 = .ok (.isub, 1) := by decide +kernel
theorem dX13_lettered_48 : decode cX13_lettered 48 = .ok (.istore_n 3, 1) := by decide +kernel
theorem dX13_lettered_49 : decode cX13_lettered 49 = .ok (.iload_n 3, 1) := by decide +kernel
theorem dX13_lettered_50 : decode cX13_lettered 50 = .ok (.iload_n 2, 1) := by decide +kernel
theorem dX13_lettered_51 : decode cX13_lettered 51 = .ok (.if_icmp .ge 7, 3) := by decide +kernel
theorem dX13_lettered_54 : decode cX13_lettered 54 = .ok (.iload_n 3, 1) := by decide +kernel
theorem dX13_lettered_55 : decode cX13_lettered 55 = .ok (.goto 4, 3) := by decide +kernel
theorem dX13_lettered_58 : decode cX13_lettered 58 = .ok (.iconst (-1), 1) := by decide +kernel
theorem dX13_lettered_59 : decode cX13_lettered 59 = .ok (.ireturn, 1) := by decide +kernel
def pX13_lettered (g : MT) (h : CT) (this : Nat) (p1 : Int32) (p2 : Int32) : Option Int32 := tg g this 12 (if (hI h this 14) = 1 then if ((hI h this 16) - (hI h this 15)) = 2 then bd (pX13_look2 g h this (hI h this 15)) fun x3 => (if x3 = p1 then bd (pX13_look2 g h this ((hI h this 15) + 1)) fun x6 => (lt (x6 - 97) fun x8 => (if p2 ≤ x8 then some (-1) else some x8)) else some (-1)) else some (-1) else some (-1))
set_option maxRecDepth 10000 in
set_option maxHeartbeats 4000000 in
theorem pX13_lettered_ok (G : Gx) (dk : Nat) (hK : 1 ≤ dk) {g : MT} {h : CT} {this : Nat} {p1 : Int32} {p2 : Int32} {r0 : Int32} (hf : pX13_lettered g h this p1 p2 = some r0) : Ctr G dk yX13_lettered cX13_lettered 4 (some .int) [va_rf (some this), .int p1, .int p2] g h (some (.int r0)) g h := by
  refine Ctr.ofZ (lv := [(0, va_rf (some this)), (1, .int p1), (2, .int p2)]) (by decide +kernel) (by simp [cat_i, cat_l, cat_d, cat_rf]) rfl fun X Z => ?_
  unfold pX13_lettered at hf
  obtain ⟨t0, hf⟩ := tg_i hf
  refine J_aload_n Z.1 0 dX13_lettered_0 rfl rfl ?_
  refine J_get (v := .int (hI h this 14)) Z.1 dX13_lettered_1 fl_X13_142 t0 rfl ?_
  refine J_iconst Z.1 (v := 1) (by decide) dX13_lettered_4 ?_
  refine J_icmp_ne Z.1 33 dX13_lettered_5 (by decide) (fun c1 => ?_) (fun c1 => ?_)
  · rw [if_neg c1] at hf
    refine J_iconst Z.1 (v := (-1)) (by decide) dX13_lettered_33 ?_
    cases hf
    exact J_iret Z.1 Z.2.2.2.2.2 dX13_lettered_34
  · rw [if_pos c1] at hf
    refine J_aload_n Z.1 0 dX13_lettered_8 rfl rfl ?_
    refine J_get (v := .int (hI h this 16)) Z.1 dX13_lettered_9 fl_X13_133 t0 rfl ?_
    refine J_aload_n Z.1 0 dX13_lettered_12 rfl rfl ?_
    refine J_get (v := .int (hI h this 15)) Z.1 dX13_lettered_13 fl_X13_136 t0 rfl ?_
    refine J_isub Z.1 dX13_lettered_16 ?_
    refine J_iconst Z.1 (v := 2) (by decide) dX13_lettered_17 ?_
    refine J_icmp_ne Z.1 33 dX13_lettered_18 (by decide) (fun c2 => ?_) (fun c2 => ?_)
    · rw [if_neg c2] at hf
      refine J_iconst Z.1 (v := (-1)) (by decide) dX13_lettered_33 ?_
      cases hf
      exact J_iret Z.1 Z.2.2.2.2.2 dX13_lettered_34
    · rw [if_pos c2] at hf
      refine J_aload_n Z.1 0 dX13_lettered_21 rfl rfl ?_
      refine J_aload_n Z.1 0 dX13_lettered_22 rfl rfl ?_
      refine J_get (v := .int (hI h this 15)) Z.1 dX13_lettered_23 fl_X13_136 t0 rfl ?_
      obtain ⟨x3, q4, hf⟩ := bd_i hf
      refine J_callV (ci := 11) (as := [.int (hI h this 15)]) (rest := []) (sy := [.int x3]) Z.1 dX13_lettered_26 cw_X13_139 (pX13_look2_ok G (dk - 1) (by omega) q4) rfl rfl t0 (zG Z) rfl (by decide) (zF Z (by omega)) (zO Z (by omega) (by decide)) (zM _) Z.2.1 Z.2.1 rfl rfl ?_
      refine J_iload_n Z.1 1 dX13_lettered_29 rfl rfl ?_
      refine J_icmp_eq Z.1 35 dX13_lettered_30 (by decide) (fun c5 => ?_) (fun c5 => ?_)
      · rw [if_pos c5] at hf
        refine J_aload_n Z.1 0 dX13_lettered_35 rfl rfl ?_
        refine J_aload_n Z.1 0 dX13_lettered_36 rfl rfl ?_
        refine J_get (v := .int (hI h this 15)) Z.1 dX13_lettered_37 fl_X13_136 t0 rfl ?_
        refine J_iconst Z.1 (v := 1) (by decide) dX13_lettered_40 ?_
        refine J_iadd Z.1 dX13_lettered_41 ?_
        obtain ⟨x6, q7, hf⟩ := bd_i hf
        refine J_callV (ci := 11) (as := [.int ((hI h this 15) + 1)]) (rest := []) (sy := [.int x6]) Z.1 dX13_lettered_42 cw_X13_139 (pX13_look2_ok G (dk - 1) (by omega) q7) rfl rfl t0 (zG Z) rfl (by decide) (zF Z (by omega)) (zO Z (by omega) (by decide)) (zM _) Z.2.1 Z.2.1 rfl rfl ?_
        refine J_bipush Z.1 (v := 97) (by decide) dX13_lettered_45 ?_
        refine J_isub Z.1 dX13_lettered_47 ?_
        refine J_ti (fun x8 ex8 => ?_)
        replace hf := lt_i hf x8 ex8
        refine J_istore_n Z.1 (lv2 := [(3, .int x8), (0, va_rf (some this)), (1, .int p1), (2, .int p2)]) dX13_lettered_48 rfl (zL Z (by decide)) rfl ?_
        refine J_iload_n Z.1 0 dX13_lettered_49 rfl rfl ?_
        refine J_iload_n Z.1 3 dX13_lettered_50 rfl rfl ?_
        refine J_icmp_ge Z.1 58 dX13_lettered_51 (by decide) (fun c9 => ?_) (fun c9 => ?_)
        · rw [if_pos c9] at hf
          refine J_iconst Z.1 (v := (-1)) (by decide) dX13_lettered_58 ?_
          cases hf
          exact J_iret Z.1 Z.2.2.2.2.2 dX13_lettered_59
        · rw [if_neg c9] at hf
          refine J_iload_n Z.1 0 dX13_lettered_54 rfl rfl ?_
          refine J_goto Z.1 59 dX13_lettered_55 (by decide) ?_
          cases hf
          exact J_iret Z.1 Z.2.2.2.2.2 dX13_lettered_59
      · rw [if_neg c5] at hf
        refine J_iconst Z.1 (v := (-1)) (by decide) dX13_lettered_33 ?_
        cases hf
        exact J_iret Z.1 Z.2.2.2.2.2 dX13_lettered_34
theorem dX13_twoWord_0 : decode cX13_twoWord 0 = .ok (.aload_n 0, 1) := by decide +kernel
theorem dX13_twoWord_1 : decode cX13_twoWord 1 = .ok (.bipush 97, 2) := by decide +kernel
theorem dX13_twoWord_3 : decode cX13_twoWord 3 = .ok (.bipush 100, 2) := by decide +kernel
theorem dX13_twoWord_5 : decode cX13_twoWord 5 = .ok (.bipush 100, 2) := by decide +kernel
theorem dX13_twoWord_7 : decode cX13_twoWord 7 = .ok (.iconst 0, 1) := by decide +kernel
theorem dX13_twoWord_8 : decode cX13_twoWord 8 = .ok (.iconst 0, 1) := by decide +kernel
theorem dX13_twoWord_9 : decode cX13_twoWord 9 = .ok (.iconst 0, 1) := by decide +kernel
theorem dX13_twoWord_10 : decode cX13_twoWord 10 = .ok (.invokestatic 161, 3) := by decide +kernel
theorem dX13_twoWord_13 : decode cX13_twoWord 13 = .ok (.invokevirtual 165, 3) := by decide +kernel
theorem dX13_twoWord_16 : decode cX13_twoWord 16 = .ok (.ifCond .eq 6, 3) := by decide +kernel
theorem dX13_twoWord_19 : decode cX13_twoWord 19 = .ok (.bipush 7, 2) := by decide +kernel
theorem dX13_twoWord_21 : decode cX13_twoWord 21 = .ok (.ireturn, 1) := by decide +kernel
theorem dX13_twoWord_22 : decode cX13_twoWord 22 = .ok (.aload_n 0, 1) := by decide +kernel
theorem dX13_twoWord_23 : decode cX13_twoWord 23 = .ok (.bipush 115, 2) := by decide +kernel
theorem dX13_twoWord_25 : decode cX13_twoWord 25 = .ok (.bipush 117, 2) := by decide +kernel
theorem dX13_twoWord_27 : decode cX13_twoWord 27 = .ok (.bipush 98, 2) := by decide +kernel
theorem dX13_twoWord_29 : decode cX13_twoWord 29 = .ok (.iconst 0, 1) := by decide +kernel
theorem dX13_twoWord_30 : decode cX13_twoWord 30 = .ok (.iconst 0, 1) := by decide +kernel
theorem dX13_twoWord_31 : decode cX13_twoWord 31 = .ok (.iconst 0, 1) := by decide +kernel
theorem dX13_twoWord_32 : decode cX13_twoWord 32 = .ok (.invokestatic 161, 3) := by decide +kernel
theorem dX13_twoWord_35 : decode cX13_twoWord 35 = .ok (.invokevirtual 165, 3) := by decide +kernel
theorem dX13_twoWord_38 : decode cX13_twoWord 38 = .ok (.ifCond .eq 6, 3) := by decide +kernel
theorem dX13_twoWord_41 : decode cX13_twoWord 41 = .ok (.bipush 8, 2) := by decide +kernel
theorem dX13_twoWord_43 : decode cX13_twoWord 43 = .ok (.ireturn, 1) := by decide +kernel
theorem dX13_twoWord_44 : decode cX13_twoWord 44 = .ok (.aload_n 0, 1) := by decide +kernel
theorem dX13_twoWord_45 : decode cX13_twoWord 45 = .ok (.bipush 109, 2) := by decide +kernel
theorem dX13_twoWord_47 : decode cX13_twoWord 47 = .ok (.bipush 117, 2) := by decide +kernel
theorem dX13_twoWord_49 : decode cX13_twoWord 49 = .ok (.bipush 108, 2) := by decide +kernel
theorem dX13_twoWord_51 : decode cX13_twoWord 51 = .ok (.iconst 0, 1) := by decide +kernel
theorem dX13_twoWord_52 : decode cX13_twoWord 52 = .ok (.iconst 0, 1) := by decide +kernel
theorem dX13_twoWord_53 : decode cX13_twoWord 53 = .ok (.iconst 0, 1) := by decide +kernel
theorem dX13_twoWord_54 : decode cX13_twoWord 54 = .ok (.invokestatic 161, 3) := by decide +kernel
theorem dX13_twoWord_57 : decode cX13_twoWord 57 = .ok (.invokevirtual 165, 3) := by decide +kernel
theorem dX13_twoWord_60 : decode cX13_twoWord 60 = .ok (.ifCond .eq 6, 3) := by decide +kernel
theorem dX13_twoWord_63 : decode cX13_twoWord 63 = .ok (.bipush 9, 2) := by decide +kernel
theorem dX13_twoWord_65 : decode cX13_twoWord 65 = .ok (.ireturn, 1) := by decide +kernel
theorem dX13_twoWord_66 : decode cX13_twoWord 66 = .ok (.aload_n 0, 1) := by decide +kernel
theorem dX13_twoWord_67 : decode cX13_twoWord 67 = .ok (.bipush 100, 2) := by decide +kernel
theorem dX13_twoWord_69 : decode cX13_twoWord 69 = .ok (.bipush 105, 2) := by decide +kernel
theorem dX13_twoWord_71 : decode cX13_twoWord 71 = .ok (.bipush 118, 2) := by decide +kernel
theorem dX13_twoWord_73 : decode cX13_twoWord 73 = .ok (.iconst 0, 1) := by decide +kernel
theorem dX13_twoWord_74 : decode cX13_twoWord 74 = .ok (.iconst 0, 1) := by decide +kernel
theorem dX13_twoWord_75 : decode cX13_twoWord 75 = .ok (.iconst 0, 1) := by decide +kernel
theorem dX13_twoWord_76 : decode cX13_twoWord 76 = .ok (.invokestatic 161, 3) := by decide +kernel
theorem dX13_twoWord_79 : decode cX13_twoWord 79 = .ok (.invokevirtual 165, 3) := by decide +kernel
theorem dX13_twoWord_82 : decode cX13_twoWord 82 = .ok (.ifCond .eq 6, 3) := by decide +kernel
theorem dX13_twoWord_85 : decode cX13_twoWord 85 = .ok (.bipush 10, 2) := by decide +kernel
theorem dX13_twoWord_87 : decode cX13_twoWord 87 = .ok (.ireturn, 1) := by decide +kernel
theorem dX13_twoWord_88 : decode cX13_twoWord 88 = .ok (.aload_n 0, 1) := by decide +kernel
theorem dX13_twoWord_89 : decode cX13_twoWord 89 = .ok (.bipush 114, 2) := by decide +kernel
theorem dX13_twoWord_91 : decode cX13_twoWord 91 = .ok (.bipush 101, 2) := by decide +kernel
theorem dX13_twoWord_93 : decode cX13_twoWord 93 = .ok (.bipush 109, 2) := by decide +kernel
theorem dX13_twoWord_95 : decode cX13_twoWord 95 = .ok (.iconst 0, 1) := by decide +kernel
theorem dX13_twoWord_96 : decode cX13_twoWord 96 = .ok (.iconst 0, 1) := by decide +kernel
theorem dX13_twoWord_97 : decode cX13_twoWord 97 = .ok (.iconst 0, 1) := by decide +kernel
theorem dX13_twoWord_98 : decode cX13_twoWord 98 = .ok (.invokestatic 161, 3) := by decide +kernel
theorem dX13_twoWord_101 : decode cX13_twoWord 101 = .ok (.invokevirtual 165, 3) := by decide +kernel
theorem dX13_twoWord_104 : decode cX13_twoWord 104 = .ok (.ifCond .eq 6, 3) := by decide +kernel
theorem dX13_twoWord_107 : decode cX13_twoWord 107 = .ok (.bipush 11, 2) := by decide +kernel
theorem dX13_twoWord_109 : decode cX13_twoWord 109 = .ok (.ireturn, 1) := by decide +kernel
theorem dX13_twoWord_110 : decode cX13_twoWord 110 = .ok (.aload_n 0, 1) := by decide +kernel
theorem dX13_twoWord_111 : decode cX13_twoWord 111 = .ok (.bipush 109, 2) := by decide +kernel
theorem dX13_twoWord_113 : decode cX13_twoWord 113 = .ok (.bipush 105, 2) := by decide +kernel
theorem dX13_twoWord_115 : decode cX13_twoWord 115 = .ok (.bipush 110, 2) := by decide +kernel
theorem dX13_twoWord_117 : decode cX13_twoWord 117 = .ok (.iconst 0, 1) := by decide +kernel
theorem dX13_twoWord_118 : decode cX13_twoWord 118 = .ok (.iconst 0, 1) := by decide +kernel
theorem dX13_twoWord_119 : decode cX13_twoWord 119 = .ok (.iconst 0, 1) := by decide +kernel
theorem dX13_twoWord_120 : decode cX13_twoWord 120 = .ok (.invokestatic 161, 3) := by decide +kernel
theorem dX13_twoWord_123 : decode cX13_twoWord 123 = .ok (.invokevirtual 165, 3) := by decide +kernel
theorem dX13_twoWord_126 : decode cX13_twoWord 126 = .ok (.ifCond .eq 6, 3) := by decide +kernel
theorem dX13_twoWord_129 : decode cX13_twoWord 129 = .ok (.bipush 12, 2) := by decide +kernel
theorem dX13_twoWord_131 : decode cX13_twoWord 131 = .ok (.ireturn, 1) := by decide +kernel
theorem dX13_twoWord_132 : decode cX13_twoWord 132 = .ok (.aload_n 0, 1) := by decide +kernel
theorem dX13_twoWord_133 : decode cX13_twoWord 133 = .ok (.bipush 109, 2) := by decide +kernel
theorem dX13_twoWord_135 : decode cX13_twoWord 135 = .ok (.bipush 97, 2) := by decide +kernel
theorem dX13_twoWord_137 : decode cX13_twoWord 137 = .ok (.bipush 120, 2) := by decide +kernel
theorem dX13_twoWord_139 : decode cX13_twoWord 139 = .ok (.iconst 0, 1) := by decide +kernel
theorem dX13_twoWord_140 : decode cX13_twoWord 140 = .ok (.iconst 0, 1) := by decide +kernel
theorem dX13_twoWord_141 : decode cX13_twoWord 141 = .ok (.iconst 0, 1) := by decide +kernel
theorem dX13_twoWord_142 : decode cX13_twoWord 142 = .ok (.invokestatic 161, 3) := by decide +kernel
theorem dX13_twoWord_145 : decode cX13_twoWord 145 = .ok (.invokevirtual 165, 3) := by decide +kernel
theorem dX13_twoWord_148 : decode cX13_twoWord 148 = .ok (.ifCond .eq 8, 3) := by decide +kernel
theorem dX13_twoWord_151 : decode cX13_twoWord 151 = .ok (.bipush 13, 2) := by decide +kernel
theorem dX13_twoWord_153 : decode cX13_twoWord 153 = .ok (.goto 4, 3) := by decide +kernel
theorem dX13_twoWord_156 : decode cX13_twoWord 156 = .ok (.iconst (-1), 1) := by decide +kernel
theorem dX13_twoWord_157 : decode cX13_twoWord 157 = .ok (.ireturn, 1) := by decide +kernel
def pX13_twoWord (g : MT) (h : CT) (this : Nat) : Option Int32 := tg g this 12 (bd (pX13_isWord g h this (pX13_spelled 97 100 100 0 0 0)) fun x1 => (if x1 = 0 then bd (pX13_isWord g h this (pX13_spelled 115 117 98 0 0 0)) fun x4 => (if x4 = 0 then bd (pX13_isWord g h this (pX13_spelled 109 117 108 0 0 0)) fun x7 => (if x7 = 0 then bd (pX13_isWord g h this (pX13_spelled 100 105 118 0 0 0)) fun x10 => (if x10 = 0 then bd (pX13_isWord g h this (pX13_spelled 114 101 109 0 0 0)) fun x13 => (if x13 = 0 then bd (pX13_isWord g h this (pX13_spelled 109 105 110 0 0 0)) fun x16 => (if x16 = 0 then bd (pX13_isWord g h this (pX13_spelled 109 97 120 0 0 0)) fun x19 => (if x19 = 0 then some (-1) else some 13) else some 12) else some 11) else some 10) else some 9) else some 8) else some 7))
set_option maxRecDepth 10000 in
set_option maxHeartbeats 4000000 in
theorem pX13_twoWord_ok (G : Gx) (dk : Nat) (hK : 1 ≤ dk) {g : MT} {h : CT} {this : Nat} {r0 : Int32} (hf : pX13_twoWord g h this = some r0) : Ctr G dk yX13_twoWord cX13_twoWord 1 (some .int) [va_rf (some this)] g h (some (.int r0)) g h := by
  refine Ctr.ofZ (lv := [(0, va_rf (some this))]) (by decide +kernel) (by simp [cat_i, cat_l, cat_d, cat_rf]) rfl fun X Z => ?_
  unfold pX13_twoWord at hf
  obtain ⟨t0, hf⟩ := tg_i hf
  refine J_aload_n Z.1 0 dX13_twoWord_0 rfl rfl ?_
  refine J_bipush Z.1 (v := 97) (by decide) dX13_twoWord_1 ?_
  refine J_bipush Z.1 (v := 100) (by decide) dX13_twoWord_3 ?_
  refine J_bipush Z.1 (v := 100) (by decide) dX13_twoWord_5 ?_
  refine J_iconst Z.1 (v := 0) (by decide) dX13_twoWord_7 ?_
  refine J_iconst Z.1 (v := 0) (by decide) dX13_twoWord_8 ?_
  refine J_iconst Z.1 (v := 0) (by decide) dX13_twoWord_9 ?_
  refine J_callS (as := [.int 97, .int 100, .int 100, .int 0, .int 0, .int 0]) (rest := [va_rf (some this)]) (sy := [.long (pX13_spelled 97 100 100 0 0 0), va_rf (some this)]) Z.1 dX13_twoWord_10 cw_X13_161 (pX13_spelled_ok G (dk - 1) (by omega) g h 97 100 100 0 0 0) (zG Z) rfl (by simp [cat_i, cat_l, cat_d, cat_rf]) (zF Z (by omega)) (zO Z (by omega) (by decide)) (zM _) Z.2.1 Z.2.1 rfl rfl ?_
  obtain ⟨x1, q2, hf⟩ := bd_i hf
  refine J_callV (ci := 11) (as := [.long (pX13_spelled 97 100 100 0 0 0)]) (rest := []) (sy := [.int x1]) Z.1 dX13_twoWord_13 cw_X13_165 (pX13_isWord_ok G (dk - 1) (by omega) q2) rfl rfl t0 (zG Z) rfl (by decide) (zF Z (by omega)) (zO Z (by omega) (by decide)) (zM _) Z.2.1 Z.2.1 rfl rfl ?_
  refine J_if_eq Z.1 22 dX13_twoWord_16 (by decide) (fun c3 => ?_) (fun c3 => ?_)
  · rw [if_pos c3] at hf
    refine J_aload_n Z.1 0 dX13_twoWord_22 rfl rfl ?_
    refine J_bipush Z.1 (v := 115) (by decide) dX13_twoWord_23 ?_
    refine J_bipush Z.1 (v := 117) (by decide) dX13_twoWord_25 ?_
    refine J_bipush Z.1 (v := 98) (by decide) dX13_twoWord_27 ?_
    refine J_iconst Z.1 (v := 0) (by decide) dX13_twoWord_29 ?_
    refine J_iconst Z.1 (v := 0) (by decide) dX13_twoWord_30 ?_
    refine J_iconst Z.1 (v := 0) (by decide) dX13_twoWord_31 ?_
    refine J_callS (as := [.int 115, .int 117, .int 98, .int 0, .int 0, .int 0]) (rest := [va_rf (some this)]) (sy := [.long (pX13_spelled 115 117 98 0 0 0), va_rf (some this)]) Z.1 dX13_twoWord_32 cw_X13_161 (pX13_spelled_ok G (dk - 1) (by omega) g h 115 117 98 0 0 0) (zG Z) rfl (by simp [cat_i, cat_l, cat_d, cat_rf]) (zF Z (by omega)) (zO Z (by omega) (by decide)) (zM _) Z.2.1 Z.2.1 rfl rfl ?_
    obtain ⟨x4, q5, hf⟩ := bd_i hf
    refine J_callV (ci := 11) (as := [.long (pX13_spelled 115 117 98 0 0 0)]) (rest := []) (sy := [.int x4]) Z.1 dX13_twoWord_35 cw_X13_165 (pX13_isWord_ok G (dk - 1) (by omega) q5) rfl rfl t0 (zG Z) rfl (by decide) (zF Z (by omega)) (zO Z (by omega) (by decide)) (zM _) Z.2.1 Z.2.1 rfl rfl ?_
    refine J_if_eq Z.1 44 dX13_twoWord_38 (by decide) (fun c6 => ?_) (fun c6 => ?_)
    · rw [if_pos c6] at hf
      refine J_aload_n Z.1 0 dX13_twoWord_44 rfl rfl ?_
      refine J_bipush Z.1 (v := 109) (by decide) dX13_twoWord_45 ?_
      refine J_bipush Z.1 (v := 117) (by decide) dX13_twoWord_47 ?_
      refine J_bipush Z.1 (v := 108) (by decide) dX13_twoWord_49 ?_
      refine J_iconst Z.1 (v := 0) (by decide) dX13_twoWord_51 ?_
      refine J_iconst Z.1 (v := 0) (by decide) dX13_twoWord_52 ?_
      refine J_iconst Z.1 (v := 0) (by decide) dX13_twoWord_53 ?_
      refine J_callS (as := [.int 109, .int 117, .int 108, .int 0, .int 0, .int 0]) (rest := [va_rf (some this)]) (sy := [.long (pX13_spelled 109 117 108 0 0 0), va_rf (some this)]) Z.1 dX13_twoWord_54 cw_X13_161 (pX13_spelled_ok G (dk - 1) (by omega) g h 109 117 108 0 0 0) (zG Z) rfl (by simp [cat_i, cat_l, cat_d, cat_rf]) (zF Z (by omega)) (zO Z (by omega) (by decide)) (zM _) Z.2.1 Z.2.1 rfl rfl ?_
      obtain ⟨x7, q8, hf⟩ := bd_i hf
      refine J_callV (ci := 11) (as := [.long (pX13_spelled 109 117 108 0 0 0)]) (rest := []) (sy := [.int x7]) Z.1 dX13_twoWord_57 cw_X13_165 (pX13_isWord_ok G (dk - 1) (by omega) q8) rfl rfl t0 (zG Z) rfl (by decide) (zF Z (by omega)) (zO Z (by omega) (by decide)) (zM _) Z.2.1 Z.2.1 rfl rfl ?_
      refine J_if_eq Z.1 66 dX13_twoWord_60 (by decide) (fun c9 => ?_) (fun c9 => ?_)
      · rw [if_pos c9] at hf
        refine J_aload_n Z.1 0 dX13_twoWord_66 rfl rfl ?_
        refine J_bipush Z.1 (v := 100) (by decide) dX13_twoWord_67 ?_
        refine J_bipush Z.1 (v := 105) (by decide) dX13_twoWord_69 ?_
        refine J_bipush Z.1 (v := 118) (by decide) dX13_twoWord_71 ?_
        refine J_iconst Z.1 (v := 0) (by decide) dX13_twoWord_73 ?_
        refine J_iconst Z.1 (v := 0) (by decide) dX13_twoWord_74 ?_
        refine J_iconst Z.1 (v := 0) (by decide) dX13_twoWord_75 ?_
        refine J_callS (as := [.int 100, .int 105, .int 118, .int 0, .int 0, .int 0]) (rest := [va_rf (some this)]) (sy := [.long (pX13_spelled 100 105 118 0 0 0), va_rf (some this)]) Z.1 dX13_twoWord_76 cw_X13_161 (pX13_spelled_ok G (dk - 1) (by omega) g h 100 105 118 0 0 0) (zG Z) rfl (by simp [cat_i, cat_l, cat_d, cat_rf]) (zF Z (by omega)) (zO Z (by omega) (by decide)) (zM _) Z.2.1 Z.2.1 rfl rfl ?_
        obtain ⟨x10, q11, hf⟩ := bd_i hf
        refine J_callV (ci := 11) (as := [.long (pX13_spelled 100 105 118 0 0 0)]) (rest := []) (sy := [.int x10]) Z.1 dX13_twoWord_79 cw_X13_165 (pX13_isWord_ok G (dk - 1) (by omega) q11) rfl rfl t0 (zG Z) rfl (by decide) (zF Z (by omega)) (zO Z (by omega) (by decide)) (zM _) Z.2.1 Z.2.1 rfl rfl ?_
        refine J_if_eq Z.1 88 dX13_twoWord_82 (by decide) (fun c12 => ?_) (fun c12 => ?_)
        · rw [if_pos c12] at hf
          refine J_aload_n Z.1 0 dX13_twoWord_88 rfl rfl ?_
          refine J_bipush Z.1 (v := 114) (by decide) dX13_twoWord_89 ?_
          refine J_bipush Z.1 (v := 101) (by decide) dX13_twoWord_91 ?_
          refine J_bipush Z.1 (v := 109) (by decide) dX13_twoWord_93 ?_
          refine J_iconst Z.1 (v := 0) (by decide) dX13_twoWord_95 ?_
          refine J_iconst Z.1 (v := 0) (by decide) dX13_twoWord_96 ?_
          refine J_iconst Z.1 (v := 0) (by decide) dX13_twoWord_97 ?_
          refine J_callS (as := [.int 114, .int 101, .int 109, .int 0, .int 0, .int 0]) (rest := [va_rf (some this)]) (sy := [.long (pX13_spelled 114 101 109 0 0 0), va_rf (some this)]) Z.1 dX13_twoWord_98 cw_X13_161 (pX13_spelled_ok G (dk - 1) (by omega) g h 114 101 109 0 0 0) (zG Z) rfl (by simp [cat_i, cat_l, cat_d, cat_rf]) (zF Z (by omega)) (zO Z (by omega) (by decide)) (zM _) Z.2.1 Z.2.1 rfl rfl ?_
          obtain ⟨x13, q14, hf⟩ := bd_i hf
          refine J_callV (ci := 11) (as := [.long (pX13_spelled 114 101 109 0 0 0)]) (rest := []) (sy := [.int x13]) Z.1 dX13_twoWord_101 cw_X13_165 (pX13_isWord_ok G (dk - 1) (by omega) q14) rfl rfl t0 (zG Z) rfl (by decide) (zF Z (by omega)) (zO Z (by omega) (by decide)) (zM _) Z.2.1 Z.2.1 rfl rfl ?_
          refine J_if_eq Z.1 110 dX13_twoWord_104 (by decide) (fun c15 => ?_) (fun c15 => ?_)
          · rw [if_pos c15] at hf
            refine J_aload_n Z.1 0 dX13_twoWord_110 rfl rfl ?_
            refine J_bipush Z.1 (v := 109) (by decide) dX13_twoWord_111 ?_
            refine J_bipush Z.1 (v := 105) (by decide) dX13_twoWord_113 ?_
            refine J_bipush Z.1 (v := 110) (by decide) dX13_twoWord_115 ?_
            refine J_iconst Z.1 (v := 0) (by decide) dX13_twoWord_117 ?_
            refine J_iconst Z.1 (v := 0) (by decide) dX13_twoWord_118 ?_
            refine J_iconst Z.1 (v := 0) (by decide) dX13_twoWord_119 ?_
            refine J_callS (as := [.int 109, .int 105, .int 110, .int 0, .int 0, .int 0]) (rest := [va_rf (some this)]) (sy := [.long (pX13_spelled 109 105 110 0 0 0), va_rf (some this)]) Z.1 dX13_twoWord_120 cw_X13_161 (pX13_spelled_ok G (dk - 1) (by omega) g h 109 105 110 0 0 0) (zG Z) rfl (by simp [cat_i, cat_l, cat_d, cat_rf]) (zF Z (by omega)) (zO Z (by omega) (by decide)) (zM _) Z.2.1 Z.2.1 rfl rfl ?_
            obtain ⟨x16, q17, hf⟩ := bd_i hf
            refine J_callV (ci := 11) (as := [.long (pX13_spelled 109 105 110 0 0 0)]) (rest := []) (sy := [.int x16]) Z.1 dX13_twoWord_123 cw_X13_165 (pX13_isWord_ok G (dk - 1) (by omega) q17) rfl rfl t0 (zG Z) rfl (by decide) (zF Z (by omega)) (zO Z (by omega) (by decide)) (zM _) Z.2.1 Z.2.1 rfl rfl ?_
            refine J_if_eq Z.1 132 dX13_twoWord_126 (by decide) (fun c18 => ?_) (fun c18 => ?_)
            · rw [if_pos c18] at hf
              refine J_aload_n Z.1 0 dX13_twoWord_132 rfl rfl ?_
              refine J_bipush Z.1 (v := 109) (by decide) dX13_twoWord_133 ?_
              refine J_bipush Z.1 (v := 97) (by decide) dX13_twoWord_135 ?_
              refine J_bipush Z.1 (v := 120) (by decide) dX13_twoWord_137 ?_
              refine J_iconst Z.1 (v := 0) (by decide) dX13_twoWord_139 ?_
              refine J_iconst Z.1 (v := 0) (by decide) dX13_twoWord_140 ?_
              refine J_iconst Z.1 (v := 0) (by decide) dX13_twoWord_141 ?_
              refine J_callS (as := [.int 109, .int 97, .int 120, .int 0, .int 0, .int 0]) (rest := [va_rf (some this)]) (sy := [.long (pX13_spelled 109 97 120 0 0 0), va_rf (some this)]) Z.1 dX13_twoWord_142 cw_X13_161 (pX13_spelled_ok G (dk - 1) (by omega) g h 109 97 120 0 0 0) (zG Z) rfl (by simp [cat_i, cat_l, cat_d, cat_rf]) (zF Z (by omega)) (zO Z (by omega) (by decide)) (zM _) Z.2.1 Z.2.1 rfl rfl ?_
              obtain ⟨x19, q20, hf⟩ := bd_i hf
              refine J_callV (ci := 11) (as := [.long (pX13_spelled 109 97 120 0 0 0)]) (rest := []) (sy := [.int x19]) Z.1 dX13_twoWord_145 cw_X13_165 (pX13_isWord_ok G (dk - 1) (by omega) q20) rfl rfl t0 (zG Z) rfl (by decide) (zF Z (by omega)) (zO Z (by omega) (by decide)) (zM _) Z.2.1 Z.2.1 rfl rfl ?_
              refine J_if_eq Z.1 156 dX13_twoWord_148 (by decide) (fun c21 => ?_) (fun c21 => ?_)
              · rw [if_pos c21] at hf
                refine J_iconst Z.1 (v := (-1)) (by decide) dX13_twoWord_156 ?_
                cases hf
                exact J_iret Z.1 Z.2.2.2.2.2 dX13_twoWord_157
              · rw [if_neg c21] at hf
                refine J_bipush Z.1 (v := 13) (by decide) dX13_twoWord_151 ?_
                refine J_goto Z.1 157 dX13_twoWord_153 (by decide) ?_
                cases hf
                exact J_iret Z.1 Z.2.2.2.2.2 dX13_twoWord_157
            · rw [if_neg c18] at hf
              refine J_bipush Z.1 (v := 12) (by decide) dX13_twoWord_129 ?_
              cases hf
              exact J_iret Z.1 Z.2.2.2.2.2 dX13_twoWord_131
          · rw [if_neg c15] at hf
            refine J_bipush Z.1 (v := 11) (by decide) dX13_twoWord_107 ?_
            cases hf
            exact J_iret Z.1 Z.2.2.2.2.2 dX13_twoWord_109
        · rw [if_neg c12] at hf
          refine J_bipush Z.1 (v := 10) (by decide) dX13_twoWord_85 ?_
          cases hf
          exact J_iret Z.1 Z.2.2.2.2.2 dX13_twoWord_87
      · rw [if_neg c9] at hf
        refine J_bipush Z.1 (v := 9) (by decide) dX13_twoWord_63 ?_
        cases hf
        exact J_iret Z.1 Z.2.2.2.2.2 dX13_twoWord_65
    · rw [if_neg c6] at hf
      refine J_bipush Z.1 (v := 8) (by decide) dX13_twoWord_41 ?_
      cases hf
      exact J_iret Z.1 Z.2.2.2.2.2 dX13_twoWord_43
  · rw [if_neg c3] at hf
    refine J_bipush Z.1 (v := 7) (by decide) dX13_twoWord_19 ?_
    cases hf
    exact J_iret Z.1 Z.2.2.2.2.2 dX13_twoWord_21
theorem dX13_oneWord_0 : decode cX13_oneWord 0 = .ok (.aload_n 0, 1) := by decide +kernel
theorem dX13_oneWord_1 : decode cX13_oneWord 1 = .ok (.bipush 99, 2) := by decide +kernel
theorem dX13_oneWord_3 : decode cX13_oneWord 3 = .ok (.bipush 111, 2) := by decide +kernel
theorem dX13_oneWord_5 : decode cX13_oneWord 5 = .ok (.bipush 112, 2) := by decide +kernel
theorem dX13_oneWord_7 : decode cX13_oneWord 7 = .ok (.bipush 121, 2) := by decide +kernel
theorem dX13_oneWord_9 : decode cX13_oneWord 9 = .ok (.iconst 0, 1) := by decide +kernel
theorem dX13_oneWord_10 : decode cX13_oneWord 10 = .ok (.iconst 0, 1) := by decide +kernel
theorem dX13_oneWord_11 : decode cX13_oneWord 11 = .ok (.invokestatic 161, 3) := by decide +kernel
theorem dX13_oneWord_14 : decode cX13_oneWord 14 = .ok (.invokevirtual 165, 3) := by decide +kernel
theorem dX13_oneWord_17 : decode cX13_oneWord 17 = .ok (.ifCond .eq 6, 3) := by decide +kernel
theorem dX13_oneWord_20 : decode cX13_oneWord 20 = .ok (.bipush 14, 2) := by decide +kernel
theorem dX13_oneWord_22 : decode cX13_oneWord 22 = .ok (.ireturn, 1) := by decide +kernel
theorem dX13_oneWord_23 : decode cX13_oneWord 23 = .ok (.aload_n 0, 1) := by decide +kernel
theorem dX13_oneWord_24 : decode cX13_oneWord 24 = .ok (.bipush 115, 2) := by decide +kernel
theorem dX13_oneWord_26 : decode cX13_oneWord 26 = .ok (.bipush 105, 2) := by decide +kernel
theorem dX13_oneWord_28 : decode cX13_oneWord 28 = .ok (.bipush 110, 2) := by decide +kernel
theorem dX13_oneWord_30 : decode cX13_oneWord 30 = .ok (.bipush 103, 2) := by decide +kernel
theorem dX13_oneWord_32 : decode cX13_oneWord 32 = .ok (.bipush 108, 2) := by decide +kernel
theorem dX13_oneWord_34 : decode cX13_oneWord 34 = .ok (.bipush 101, 2) := by decide +kernel
theorem dX13_oneWord_36 : decode cX13_oneWord 36 = .ok (.invokestatic 161, 3) := by decide +kernel
theorem dX13_oneWord_39 : decode cX13_oneWord 39 = .ok (.invokevirtual 165, 3) := by decide +kernel
theorem dX13_oneWord_42 : decode cX13_oneWord 42 = .ok (.ifCond .eq 6, 3) := by decide +kernel
theorem dX13_oneWord_45 : decode cX13_oneWord 45 = .ok (.bipush 15, 2) := by decide +kernel
theorem dX13_oneWord_47 : decode cX13_oneWord 47 = .ok (.ireturn, 1) := by decide +kernel
theorem dX13_oneWord_48 : decode cX13_oneWord 48 = .ok (.aload_n 0, 1) := by decide +kernel
theorem dX13_oneWord_49 : decode cX13_oneWord 49 = .ok (.bipush 119, 2) := by decide +kernel
theorem dX13_oneWord_51 : decode cX13_oneWord 51 = .ok (.bipush 104, 2) := by decide +kernel
theorem dX13_oneWord_53 : decode cX13_oneWord 53 = .ok (.bipush 111, 2) := by decide +kernel
theorem dX13_oneWord_55 : decode cX13_oneWord 55 = .ok (.bipush 108, 2) := by decide +kernel
theorem dX13_oneWord_57 : decode cX13_oneWord 57 = .ok (.bipush 101, 2) := by decide +kernel
theorem dX13_oneWord_59 : decode cX13_oneWord 59 = .ok (.iconst 0, 1) := by decide +kernel
theorem dX13_oneWord_60 : decode cX13_oneWord 60 = .ok (.invokestatic 161, 3) := by decide +kernel
theorem dX13_oneWord_63 : decode cX13_oneWord 63 = .ok (.invokevirtual 165, 3) := by decide +kernel
theorem dX13_oneWord_66 : decode cX13_oneWord 66 = .ok (.ifCond .eq 8, 3) := by decide +kernel
theorem dX13_oneWord_69 : decode cX13_oneWord 69 = .ok (.bipush 16, 2) := by decide +kernel
theorem dX13_oneWord_71 : decode cX13_oneWord 71 = .ok (.goto 4, 3) := by decide +kernel
theorem dX13_oneWord_74 : decode cX13_oneWord 74 = .ok (.iconst (-1), 1) := by decide +kernel
theorem dX13_oneWord_75 : decode cX13_oneWord 75 = .ok (.ireturn, 1) := by decide +kernel
def pX13_oneWord (g : MT) (h : CT) (this : Nat) : Option Int32 := tg g this 12 (bd (pX13_isWord g h this (pX13_spelled 99 111 112 121 0 0)) fun x1 => (if x1 = 0 then bd (pX13_isWord g h this (pX13_spelled 115 105 110 103 108 101)) fun x4 => (if x4 = 0 then bd (pX13_isWord g h this (pX13_spelled 119 104 111 108 101 0)) fun x7 => (if x7 = 0 then some (-1) else some 16) else some 15) else some 14))
set_option maxRecDepth 10000 in
set_option maxHeartbeats 4000000 in
theorem pX13_oneWord_ok (G : Gx) (dk : Nat) (hK : 1 ≤ dk) {g : MT} {h : CT} {this : Nat} {r0 : Int32} (hf : pX13_oneWord g h this = some r0) : Ctr G dk yX13_oneWord cX13_oneWord 1 (some .int) [va_rf (some this)] g h (some (.int r0)) g h := by
  refine Ctr.ofZ (lv := [(0, va_rf (some this))]) (by decide +kernel) (by simp [cat_i, cat_l, cat_d, cat_rf]) rfl fun X Z => ?_
  unfold pX13_oneWord at hf
  obtain ⟨t0, hf⟩ := tg_i hf
  refine J_aload_n Z.1 0 dX13_oneWord_0 rfl rfl ?_
  refine J_bipush Z.1 (v := 99) (by decide) dX13_oneWord_1 ?_
  refine J_bipush Z.1 (v := 111) (by decide) dX13_oneWord_3 ?_
  refine J_bipush Z.1 (v := 112) (by decide) dX13_oneWord_5 ?_
  refine J_bipush Z.1 (v := 121) (by decide) dX13_oneWord_7 ?_
  refine J_iconst Z.1 (v := 0) (by decide) dX13_oneWord_9 ?_
  refine J_iconst Z.1 (v := 0) (by decide) dX13_oneWord_10 ?_
  refine J_callS (as := [.int 99, .int 111, .int 112, .int 121, .int 0, .int 0]) (rest := [va_rf (some this)]) (sy := [.long (pX13_spelled 99 111 112 121 0 0), va_rf (some this)]) Z.1 dX13_oneWord_11 cw_X13_161 (pX13_spelled_ok G (dk - 1) (by omega) g h 99 111 112 121 0 0) (zG Z) rfl (by simp [cat_i, cat_l, cat_d, cat_rf]) (zF Z (by omega)) (zO Z (by omega) (by decide)) (zM _) Z.2.1 Z.2.1 rfl rfl ?_
  obtain ⟨x1, q2, hf⟩ := bd_i hf
  refine J_callV (ci := 11) (as := [.long (pX13_spelled 99 111 112 121 0 0)]) (rest := []) (sy := [.int x1]) Z.1 dX13_oneWord_14 cw_X13_165 (pX13_isWord_ok G (dk - 1) (by omega) q2) rfl rfl t0 (zG Z) rfl (by decide) (zF Z (by omega)) (zO Z (by omega) (by decide)) (zM _) Z.2.1 Z.2.1 rfl rfl ?_
  refine J_if_eq Z.1 23 dX13_oneWord_17 (by decide) (fun c3 => ?_) (fun c3 => ?_)
  · rw [if_pos c3] at hf
    refine J_aload_n Z.1 0 dX13_oneWord_23 rfl rfl ?_
    refine J_bipush Z.1 (v := 115) (by decide) dX13_oneWord_24 ?_
    refine J_bipush Z.1 (v := 105) (by decide) dX13_oneWord_26 ?_
    refine J_bipush Z.1 (v := 110) (by decide) dX13_oneWord_28 ?_
    refine J_bipush Z.1 (v := 103) (by decide) dX13_oneWord_30 ?_
    refine J_bipush Z.1 (v := 108) (by decide) dX13_oneWord_32 ?_
    refine J_bipush Z.1 (v := 101) (by decide) dX13_oneWord_34 ?_
    refine J_callS (as := [.int 115, .int 105, .int 110, .int 103, .int 108, .int 101]) (rest := [va_rf (some this)]) (sy := [.long (pX13_spelled 115 105 110 103 108 101), va_rf (some this)]) Z.1 dX13_oneWord_36 cw_X13_161 (pX13_spelled_ok G (dk - 1) (by omega) g h 115 105 110 103 108 101) (zG Z) rfl (by simp [cat_i, cat_l, cat_d, cat_rf]) (zF Z (by omega)) (zO Z (by omega) (by decide)) (zM _) Z.2.1 Z.2.1 rfl rfl ?_
    obtain ⟨x4, q5, hf⟩ := bd_i hf
    refine J_callV (ci := 11) (as := [.long (pX13_spelled 115 105 110 103 108 101)]) (rest := []) (sy := [.int x4]) Z.1 dX13_oneWord_39 cw_X13_165 (pX13_isWord_ok G (dk - 1) (by omega) q5) rfl rfl t0 (zG Z) rfl (by decide) (zF Z (by omega)) (zO Z (by omega) (by decide)) (zM _) Z.2.1 Z.2.1 rfl rfl ?_
    refine J_if_eq Z.1 48 dX13_oneWord_42 (by decide) (fun c6 => ?_) (fun c6 => ?_)
    · rw [if_pos c6] at hf
      refine J_aload_n Z.1 0 dX13_oneWord_48 rfl rfl ?_
      refine J_bipush Z.1 (v := 119) (by decide) dX13_oneWord_49 ?_
      refine J_bipush Z.1 (v := 104) (by decide) dX13_oneWord_51 ?_
      refine J_bipush Z.1 (v := 111) (by decide) dX13_oneWord_53 ?_
      refine J_bipush Z.1 (v := 108) (by decide) dX13_oneWord_55 ?_
      refine J_bipush Z.1 (v := 101) (by decide) dX13_oneWord_57 ?_
      refine J_iconst Z.1 (v := 0) (by decide) dX13_oneWord_59 ?_
      refine J_callS (as := [.int 119, .int 104, .int 111, .int 108, .int 101, .int 0]) (rest := [va_rf (some this)]) (sy := [.long (pX13_spelled 119 104 111 108 101 0), va_rf (some this)]) Z.1 dX13_oneWord_60 cw_X13_161 (pX13_spelled_ok G (dk - 1) (by omega) g h 119 104 111 108 101 0) (zG Z) rfl (by simp [cat_i, cat_l, cat_d, cat_rf]) (zF Z (by omega)) (zO Z (by omega) (by decide)) (zM _) Z.2.1 Z.2.1 rfl rfl ?_
      obtain ⟨x7, q8, hf⟩ := bd_i hf
      refine J_callV (ci := 11) (as := [.long (pX13_spelled 119 104 111 108 101 0)]) (rest := []) (sy := [.int x7]) Z.1 dX13_oneWord_63 cw_X13_165 (pX13_isWord_ok G (dk - 1) (by omega) q8) rfl rfl t0 (zG Z) rfl (by decide) (zF Z (by omega)) (zO Z (by omega) (by decide)) (zM _) Z.2.1 Z.2.1 rfl rfl ?_
      refine J_if_eq Z.1 74 dX13_oneWord_66 (by decide) (fun c9 => ?_) (fun c9 => ?_)
      · rw [if_pos c9] at hf
        refine J_iconst Z.1 (v := (-1)) (by decide) dX13_oneWord_74 ?_
        cases hf
        exact J_iret Z.1 Z.2.2.2.2.2 dX13_oneWord_75
      · rw [if_neg c9] at hf
        refine J_bipush Z.1 (v := 16) (by decide) dX13_oneWord_69 ?_
        refine J_goto Z.1 75 dX13_oneWord_71 (by decide) ?_
        cases hf
        exact J_iret Z.1 Z.2.2.2.2.2 dX13_oneWord_75
    · rw [if_neg c6] at hf
      refine J_bipush Z.1 (v := 15) (by decide) dX13_oneWord_45 ?_
      cases hf
      exact J_iret Z.1 Z.2.2.2.2.2 dX13_oneWord_47
  · rw [if_neg c3] at hf
    refine J_bipush Z.1 (v := 14) (by decide) dX13_oneWord_20 ?_
    cases hf
    exact J_iret Z.1 Z.2.2.2.2.2 dX13_oneWord_22
theorem dX13_memoryWord_0 : decode cX13_memoryWord 0 = .ok (.aload_n 0, 1) := by decide +kernel
theorem dX13_memoryWord_1 : decode cX13_memoryWord 1 = .ok (.bipush 108, 2) := by decide +kernel
theorem dX13_memoryWord_3 : decode cX13_memoryWord 3 = .ok (.bipush 111, 2) := by decide +kernel
theorem dX13_memoryWord_5 : decode cX13_memoryWord 5 = .ok (.bipush 97, 2) := by decide +kernel
theorem dX13_memoryWord_7 : decode cX13_memoryWord 7 = .ok (.bipush 100, 2) := by decide +kernel
theorem dX13_memoryWord_9 : decode cX13_memoryWord 9 = .ok (.iconst 0, 1) := by decide +kernel
theorem dX13_memoryWord_10 : decode cX13_memoryWord 10 = .ok (.iconst 0, 1) := by decide +kernel
theorem dX13_memoryWord_11 : decode cX13_memoryWord 11 = .ok (.invokestatic 161, 3) := by decide +kernel
theorem dX13_memoryWord_14 : decode cX13_memoryWord 14 = .ok (.invokevirtual 165, 3) := by decide +kernel
theorem dX13_memoryWord_17 : decode cX13_memoryWord 17 = .ok (.ifCond .eq 5, 3) := by decide +kernel
theorem dX13_memoryWord_20 : decode cX13_memoryWord 20 = .ok (.iconst 3, 1) := by decide +kernel
theorem dX13_memoryWord_21 : decode cX13_memoryWord 21 = .ok (.ireturn, 1) := by decide +kernel
theorem dX13_memoryWord_22 : decode cX13_memoryWord 22 = .ok (.aload_n 0, 1) := by decide +kernel
theorem dX13_memoryWord_23 : decode cX13_memoryWord 23 = .ok (.bipush 115, 2) := by decide +kernel
theorem dX13_memoryWord_25 : decode cX13_memoryWord 25 = .ok (.bipush 116, 2) := by decide +kernel
theorem dX13_memoryWord_27 : decode cX13_memoryWord 27 = .ok (.bipush 111, 2) := by decide +kernel
theorem dX13_memoryWord_29 : decode cX13_memoryWord 29 = .ok (.bipush 114, 2) := by decide +kernel
theorem dX13_memoryWord_31 : decode cX13_memoryWord 31 = .ok (.bipush 101, 2) := by decide +kernel
theorem dX13_memoryWord_33 : decode cX13_memoryWord 33 = .ok (.iconst 0, 1) := by decide +kernel
theorem dX13_memoryWord_34 : decode cX13_memoryWord 34 = .ok (.invokestatic 161, 3) := by decide +kernel
theorem dX13_memoryWord_37 : decode cX13_memoryWord 37 = .ok (.invokevirtual 165, 3) := by decide +kernel
theorem dX13_memoryWord_40 : decode cX13_memoryWord 40 = .ok (.ifCond .eq 5, 3) := by decide +kernel
theorem dX13_memoryWord_43 : decode cX13_memoryWord 43 = .ok (.iconst 4, 1) := by decide +kernel
theorem dX13_memoryWord_44 : decode cX13_memoryWord 44 = .ok (.ireturn, 1) := by decide +kernel
theorem dX13_memoryWord_45 : decode cX13_memoryWord 45 = .ok (.aload_n 0, 1) := by decide +kernel
theorem dX13_memoryWord_46 : decode cX13_memoryWord 46 = .ok (.bipush 103, 2) := by decide +kernel
theorem dX13_memoryWord_48 : decode cX13_memoryWord 48 = .ok (.bipush 97, 2) := by decide +kernel
theorem dX13_memoryWord_50 : decode cX13_memoryWord 50 = .ok (.bipush 116, 2) := by decide +kernel
theorem dX13_memoryWord_52 : decode cX13_memoryWord 52 = .ok (.bipush 104, 2) := by decide +kernel
theorem dX13_memoryWord_54 : decode cX13_memoryWord 54 = .ok (.bipush 101, 2) := by decide +kernel
theorem dX13_memoryWord_56 : decode cX13_memoryWord 56 = .ok (.bipush 114, 2) := by decide +kernel
theorem dX13_memoryWord_58 : decode cX13_memoryWord 58 = .ok (.invokestatic 161, 3) := by decide +kernel
theorem dX13_memoryWord_61 : decode cX13_memoryWord 61 = .ok (.invokevirtual 165, 3) := by decide +kernel
theorem dX13_memoryWord_64 : decode cX13_memoryWord 64 = .ok (.ifCond .eq 5, 3) := by decide +kernel
theorem dX13_memoryWord_67 : decode cX13_memoryWord 67 = .ok (.iconst 5, 1) := by decide +kernel
theorem dX13_memoryWord_68 : decode cX13_memoryWord 68 = .ok (.ireturn, 1) := by decide +kernel
theorem dX13_memoryWord_69 : decode cX13_memoryWord 69 = .ok (.aload_n 0, 1) := by decide +kernel
theorem dX13_memoryWord_70 : decode cX13_memoryWord 70 = .ok (.bipush 115, 2) := by decide +kernel
theorem dX13_memoryWord_72 : decode cX13_memoryWord 72 = .ok (.bipush 99, 2) := by decide +kernel
theorem dX13_memoryWord_74 : decode cX13_memoryWord 74 = .ok (.bipush 97, 2) := by decide +kernel
theorem dX13_memoryWord_76 : decode cX13_memoryWord 76 = .ok (.bipush 116, 2) := by decide +kernel
theorem dX13_memoryWord_78 : decode cX13_memoryWord 78 = .ok (.bipush 116, 2) := by decide +kernel
theorem dX13_memoryWord_80 : decode cX13_memoryWord 80 = .ok (.bipush 101, 2) := by decide +kernel
theorem dX13_memoryWord_82 : decode cX13_memoryWord 82 = .ok (.invokestatic 161, 3) := by decide +kernel
theorem dX13_memoryWord_85 : decode cX13_memoryWord 85 = .ok (.ldc2_w 151, 3) := by decide +kernel
theorem dX13_memoryWord_88 : decode cX13_memoryWord 88 = .ok (.lmul, 1) := by decide +kernel
theorem dX13_memoryWord_89 : decode cX13_memoryWord 89 = .ok (.ldc2_w 169, 3) := by decide +kernel
theorem dX13_memoryWord_92 : decode cX13_memoryWord 92 = .ok (.ladd, 1) := by decide +kernel
theorem dX13_memoryWord_93 : decode cX13_memoryWord 93 = .ok (.invokevirtual 165, 3) := by decide +kernel
theorem dX13_memoryWord_96 : decode cX13_memoryWord 96 = .ok (.ifCond .eq 8, 3) := by decide +kernel
theorem dX13_memoryWord_99 : decode cX13_memoryWord 99 = .ok (.bipush 6, 2) := by decide +kernel
theorem dX13_memoryWord_101 : decode cX13_memoryWord 101 = .ok (.goto 4, 3) := by decide +kernel
theorem dX13_memoryWord_104 : decode cX13_memoryWord 104 = .ok (.iconst (-1), 1) := by decide +kernel
theorem dX13_memoryWord_105 : decode cX13_memoryWord 105 = .ok (.ireturn, 1) := by decide +kernel
def pX13_memoryWord (g : MT) (h : CT) (this : Nat) : Option Int32 := tg g this 12 (bd (pX13_isWord g h this (pX13_spelled 108 111 97 100 0 0)) fun x1 => (if x1 = 0 then bd (pX13_isWord g h this (pX13_spelled 115 116 111 114 101 0)) fun x4 => (if x4 = 0 then bd (pX13_isWord g h this (pX13_spelled 103 97 116 104 101 114)) fun x7 => (if x7 = 0 then bd (pX13_isWord g h this (((pX13_spelled 115 99 97 116 116 101) * 32) + 18)) fun x10 => (if x10 = 0 then some (-1) else some 6) else some 5) else some 4) else some 3))
set_option maxRecDepth 10000 in
set_option maxHeartbeats 4000000 in
theorem pX13_memoryWord_ok (G : Gx) (dk : Nat) (hK : 1 ≤ dk) {g : MT} {h : CT} {this : Nat} {r0 : Int32} (hf : pX13_memoryWord g h this = some r0) : Ctr G dk yX13_memoryWord cX13_memoryWord 1 (some .int) [va_rf (some this)] g h (some (.int r0)) g h := by
  refine Ctr.ofZ (lv := [(0, va_rf (some this))]) (by decide +kernel) (by simp [cat_i, cat_l, cat_d, cat_rf]) rfl fun X Z => ?_
  unfold pX13_memoryWord at hf
  obtain ⟨t0, hf⟩ := tg_i hf
  refine J_aload_n Z.1 0 dX13_memoryWord_0 rfl rfl ?_
  refine J_bipush Z.1 (v := 108) (by decide) dX13_memoryWord_1 ?_
  refine J_bipush Z.1 (v := 111) (by decide) dX13_memoryWord_3 ?_
  refine J_bipush Z.1 (v := 97) (by decide) dX13_memoryWord_5 ?_
  refine J_bipush Z.1 (v := 100) (by decide) dX13_memoryWord_7 ?_
  refine J_iconst Z.1 (v := 0) (by decide) dX13_memoryWord_9 ?_
  refine J_iconst Z.1 (v := 0) (by decide) dX13_memoryWord_10 ?_
  refine J_callS (as := [.int 108, .int 111, .int 97, .int 100, .int 0, .int 0]) (rest := [va_rf (some this)]) (sy := [.long (pX13_spelled 108 111 97 100 0 0), va_rf (some this)]) Z.1 dX13_memoryWord_11 cw_X13_161 (pX13_spelled_ok G (dk - 1) (by omega) g h 108 111 97 100 0 0) (zG Z) rfl (by simp [cat_i, cat_l, cat_d, cat_rf]) (zF Z (by omega)) (zO Z (by omega) (by decide)) (zM _) Z.2.1 Z.2.1 rfl rfl ?_
  obtain ⟨x1, q2, hf⟩ := bd_i hf
  refine J_callV (ci := 11) (as := [.long (pX13_spelled 108 111 97 100 0 0)]) (rest := []) (sy := [.int x1]) Z.1 dX13_memoryWord_14 cw_X13_165 (pX13_isWord_ok G (dk - 1) (by omega) q2) rfl rfl t0 (zG Z) rfl (by decide) (zF Z (by omega)) (zO Z (by omega) (by decide)) (zM _) Z.2.1 Z.2.1 rfl rfl ?_
  refine J_if_eq Z.1 22 dX13_memoryWord_17 (by decide) (fun c3 => ?_) (fun c3 => ?_)
  · rw [if_pos c3] at hf
    refine J_aload_n Z.1 0 dX13_memoryWord_22 rfl rfl ?_
    refine J_bipush Z.1 (v := 115) (by decide) dX13_memoryWord_23 ?_
    refine J_bipush Z.1 (v := 116) (by decide) dX13_memoryWord_25 ?_
    refine J_bipush Z.1 (v := 111) (by decide) dX13_memoryWord_27 ?_
    refine J_bipush Z.1 (v := 114) (by decide) dX13_memoryWord_29 ?_
    refine J_bipush Z.1 (v := 101) (by decide) dX13_memoryWord_31 ?_
    refine J_iconst Z.1 (v := 0) (by decide) dX13_memoryWord_33 ?_
    refine J_callS (as := [.int 115, .int 116, .int 111, .int 114, .int 101, .int 0]) (rest := [va_rf (some this)]) (sy := [.long (pX13_spelled 115 116 111 114 101 0), va_rf (some this)]) Z.1 dX13_memoryWord_34 cw_X13_161 (pX13_spelled_ok G (dk - 1) (by omega) g h 115 116 111 114 101 0) (zG Z) rfl (by simp [cat_i, cat_l, cat_d, cat_rf]) (zF Z (by omega)) (zO Z (by omega) (by decide)) (zM _) Z.2.1 Z.2.1 rfl rfl ?_
    obtain ⟨x4, q5, hf⟩ := bd_i hf
    refine J_callV (ci := 11) (as := [.long (pX13_spelled 115 116 111 114 101 0)]) (rest := []) (sy := [.int x4]) Z.1 dX13_memoryWord_37 cw_X13_165 (pX13_isWord_ok G (dk - 1) (by omega) q5) rfl rfl t0 (zG Z) rfl (by decide) (zF Z (by omega)) (zO Z (by omega) (by decide)) (zM _) Z.2.1 Z.2.1 rfl rfl ?_
    refine J_if_eq Z.1 45 dX13_memoryWord_40 (by decide) (fun c6 => ?_) (fun c6 => ?_)
    · rw [if_pos c6] at hf
      refine J_aload_n Z.1 0 dX13_memoryWord_45 rfl rfl ?_
      refine J_bipush Z.1 (v := 103) (by decide) dX13_memoryWord_46 ?_
      refine J_bipush Z.1 (v := 97) (by decide) dX13_memoryWord_48 ?_
      refine J_bipush Z.1 (v := 116) (by decide) dX13_memoryWord_50 ?_
      refine J_bipush Z.1 (v := 104) (by decide) dX13_memoryWord_52 ?_
      refine J_bipush Z.1 (v := 101) (by decide) dX13_memoryWord_54 ?_
      refine J_bipush Z.1 (v := 114) (by decide) dX13_memoryWord_56 ?_
      refine J_callS (as := [.int 103, .int 97, .int 116, .int 104, .int 101, .int 114]) (rest := [va_rf (some this)]) (sy := [.long (pX13_spelled 103 97 116 104 101 114), va_rf (some this)]) Z.1 dX13_memoryWord_58 cw_X13_161 (pX13_spelled_ok G (dk - 1) (by omega) g h 103 97 116 104 101 114) (zG Z) rfl (by simp [cat_i, cat_l, cat_d, cat_rf]) (zF Z (by omega)) (zO Z (by omega) (by decide)) (zM _) Z.2.1 Z.2.1 rfl rfl ?_
      obtain ⟨x7, q8, hf⟩ := bd_i hf
      refine J_callV (ci := 11) (as := [.long (pX13_spelled 103 97 116 104 101 114)]) (rest := []) (sy := [.int x7]) Z.1 dX13_memoryWord_61 cw_X13_165 (pX13_isWord_ok G (dk - 1) (by omega) q8) rfl rfl t0 (zG Z) rfl (by decide) (zF Z (by omega)) (zO Z (by omega) (by decide)) (zM _) Z.2.1 Z.2.1 rfl rfl ?_
      refine J_if_eq Z.1 69 dX13_memoryWord_64 (by decide) (fun c9 => ?_) (fun c9 => ?_)
      · rw [if_pos c9] at hf
        refine J_aload_n Z.1 0 dX13_memoryWord_69 rfl rfl ?_
        refine J_bipush Z.1 (v := 115) (by decide) dX13_memoryWord_70 ?_
        refine J_bipush Z.1 (v := 99) (by decide) dX13_memoryWord_72 ?_
        refine J_bipush Z.1 (v := 97) (by decide) dX13_memoryWord_74 ?_
        refine J_bipush Z.1 (v := 116) (by decide) dX13_memoryWord_76 ?_
        refine J_bipush Z.1 (v := 116) (by decide) dX13_memoryWord_78 ?_
        refine J_bipush Z.1 (v := 101) (by decide) dX13_memoryWord_80 ?_
        refine J_callS (as := [.int 115, .int 99, .int 97, .int 116, .int 116, .int 101]) (rest := [va_rf (some this)]) (sy := [.long (pX13_spelled 115 99 97 116 116 101), va_rf (some this)]) Z.1 dX13_memoryWord_82 cw_X13_161 (pX13_spelled_ok G (dk - 1) (by omega) g h 115 99 97 116 116 101) (zG Z) rfl (by simp [cat_i, cat_l, cat_d, cat_rf]) (zF Z (by omega)) (zO Z (by omega) (by decide)) (zM _) Z.2.1 Z.2.1 rfl rfl ?_
        refine J_ldc2 Z.1 q_1635 dX13_memoryWord_85 ?_
        refine J_lmul Z.1 dX13_memoryWord_88 ?_
        refine J_ldc2 Z.1 q_1668 dX13_memoryWord_89 ?_
        refine J_ladd Z.1 dX13_memoryWord_92 ?_
        obtain ⟨x10, q11, hf⟩ := bd_i hf
        refine J_callV (ci := 11) (as := [.long (((pX13_spelled 115 99 97 116 116 101) * 32) + 18)]) (rest := []) (sy := [.int x10]) Z.1 dX13_memoryWord_93 cw_X13_165 (pX13_isWord_ok G (dk - 1) (by omega) q11) rfl rfl t0 (zG Z) rfl (by decide) (zF Z (by omega)) (zO Z (by omega) (by decide)) (zM _) Z.2.1 Z.2.1 rfl rfl ?_
        refine J_if_eq Z.1 104 dX13_memoryWord_96 (by decide) (fun c12 => ?_) (fun c12 => ?_)
        · rw [if_pos c12] at hf
          refine J_iconst Z.1 (v := (-1)) (by decide) dX13_memoryWord_104 ?_
          cases hf
          exact J_iret Z.1 Z.2.2.2.2.2 dX13_memoryWord_105
        · rw [if_neg c12] at hf
          refine J_bipush Z.1 (v := 6) (by decide) dX13_memoryWord_99 ?_
          refine J_goto Z.1 105 dX13_memoryWord_101 (by decide) ?_
          cases hf
          exact J_iret Z.1 Z.2.2.2.2.2 dX13_memoryWord_105
      · rw [if_neg c9] at hf
        refine J_iconst Z.1 (v := 5) (by decide) dX13_memoryWord_67 ?_
        cases hf
        exact J_iret Z.1 Z.2.2.2.2.2 dX13_memoryWord_68
    · rw [if_neg c6] at hf
      refine J_iconst Z.1 (v := 4) (by decide) dX13_memoryWord_43 ?_
      cases hf
      exact J_iret Z.1 Z.2.2.2.2.2 dX13_memoryWord_44
  · rw [if_neg c3] at hf
    refine J_iconst Z.1 (v := 3) (by decide) dX13_memoryWord_20 ?_
    cases hf
    exact J_iret Z.1 Z.2.2.2.2.2 dX13_memoryWord_21
theorem dX13_maskWord_0 : decode cX13_maskWord 0 = .ok (.aload_n 0, 1) := by decide +kernel
theorem dX13_maskWord_1 : decode cX13_maskWord 1 = .ok (.bipush 108, 2) := by decide +kernel
theorem dX13_maskWord_3 : decode cX13_maskWord 3 = .ok (.bipush 101, 2) := by decide +kernel
theorem dX13_maskWord_5 : decode cX13_maskWord 5 = .ok (.bipush 115, 2) := by decide +kernel
theorem dX13_maskWord_7 : decode cX13_maskWord 7 = .ok (.bipush 115, 2) := by decide +kernel
theorem dX13_maskWord_9 : decode cX13_maskWord 9 = .ok (.iconst 0, 1) := by decide +kernel
theorem dX13_maskWord_10 : decode cX13_maskWord 10 = .ok (.iconst 0, 1) := by decide +kernel
theorem dX13_maskWord_11 : decode cX13_maskWord 11 = .ok (.invokestatic 161, 3) := by decide +kernel
theorem dX13_maskWord_14 : decode cX13_maskWord 14 = .ok (.invokevirtual 165, 3) := by decide +kernel
theorem dX13_maskWord_17 : decode cX13_maskWord 17 = .ok (.ifCond .eq 6, 3) := by decide +kernel
theorem dX13_maskWord_20 : decode cX13_maskWord 20 = .ok (.bipush 17, 2) := by decide +kernel
theorem dX13_maskWord_22 : decode cX13_maskWord 22 = .ok (.ireturn, 1) := by decide +kernel
theorem dX13_maskWord_23 : decode cX13_maskWord 23 = .ok (.aload_n 0, 1) := by decide +kernel
theorem dX13_maskWord_24 : decode cX13_maskWord 24 = .ok (.bipush 115, 2) := by decide +kernel
theorem dX13_maskWord_26 : decode cX13_maskWord 26 = .ok (.bipush 97, 2) := by decide +kernel
theorem dX13_maskWord_28 : decode cX13_maskWord 28 = .ok (.bipush 109, 2) := by decide +kernel
theorem dX13_maskWord_30 : decode cX13_maskWord 30 = .ok (.bipush 101, 2) := by decide +kernel
theorem dX13_maskWord_32 : decode cX13_maskWord 32 = .ok (.iconst 0, 1) := by decide +kernel
theorem dX13_maskWord_33 : decode cX13_maskWord 33 = .ok (.iconst 0, 1) := by decide +kernel
theorem dX13_maskWord_34 : decode cX13_maskWord 34 = .ok (.invokestatic 161, 3) := by decide +kernel
theorem dX13_maskWord_37 : decode cX13_maskWord 37 = .ok (.invokevirtual 165, 3) := by decide +kernel
theorem dX13_maskWord_40 : decode cX13_maskWord 40 = .ok (.ifCond .eq 6, 3) := by decide +kernel
theorem dX13_maskWord_43 : decode cX13_maskWord 43 = .ok (.bipush 18, 2) := by decide +kernel
theorem dX13_maskWord_45 : decode cX13_maskWord 45 = .ok (.ireturn, 1) := by decide +kernel
theorem dX13_maskWord_46 : decode cX13_maskWord 46 = .ok (.aload_n 0, 1) := by decide +kernel
theorem dX13_maskWord_47 : decode cX13_maskWord 47 = .ok (.bipush 111, 2) := by decide +kernel
theorem dX13_maskWord_49 : decode cX13_maskWord 49 = .ok (.bipush 100, 2) := by decide +kernel
theorem dX13_maskWord_51 : decode cX13_maskWord 51 = .ok (.bipush 100, 2) := by decide +kernel
theorem dX13_maskWord_53 : decode cX13_maskWord 53 = .ok (.iconst 0, 1) := by decide +kernel
theorem dX13_maskWord_54 : decode cX13_maskWord 54 = .ok (.iconst 0, 1) := by decide +kernel
theorem dX13_maskWord_55 : decode cX13_maskWord 55 = .ok (.iconst 0, 1) := by decide +kernel
theorem dX13_maskWord_56 : decode cX13_maskWord 56 = .ok (.invokestatic 161, 3) := by decide +kernel
theorem dX13_maskWord_59 : decode cX13_maskWord 59 = .ok (.invokevirtual 165, 3) := by decide +kernel
theorem dX13_maskWord_62 : decode cX13_maskWord 62 = .ok (.ifCond .eq 6, 3) := by decide +kernel
theorem dX13_maskWord_65 : decode cX13_maskWord 65 = .ok (.bipush 19, 2) := by decide +kernel
theorem dX13_maskWord_67 : decode cX13_maskWord 67 = .ok (.ireturn, 1) := by decide +kernel
theorem dX13_maskWord_68 : decode cX13_maskWord 68 = .ok (.aload_n 0, 1) := by decide +kernel
theorem dX13_maskWord_69 : decode cX13_maskWord 69 = .ok (.bipush 102, 2) := by decide +kernel
theorem dX13_maskWord_71 : decode cX13_maskWord 71 = .ok (.bipush 108, 2) := by decide +kernel
theorem dX13_maskWord_73 : decode cX13_maskWord 73 = .ok (.bipush 105, 2) := by decide +kernel
theorem dX13_maskWord_75 : decode cX13_maskWord 75 = .ok (.bipush 112, 2) := by decide +kernel
theorem dX13_maskWord_77 : decode cX13_maskWord 77 = .ok (.iconst 0, 1) := by decide +kernel
theorem dX13_maskWord_78 : decode cX13_maskWord 78 = .ok (.iconst 0, 1) := by decide +kernel
theorem dX13_maskWord_79 : decode cX13_maskWord 79 = .ok (.invokestatic 161, 3) := by decide +kernel
theorem dX13_maskWord_82 : decode cX13_maskWord 82 = .ok (.invokevirtual 165, 3) := by decide +kernel
theorem dX13_maskWord_85 : decode cX13_maskWord 85 = .ok (.ifCond .eq 8, 3) := by decide +kernel
theorem dX13_maskWord_88 : decode cX13_maskWord 88 = .ok (.bipush 20, 2) := by decide +kernel
theorem dX13_maskWord_90 : decode cX13_maskWord 90 = .ok (.goto 29, 3) := by decide +kernel
theorem dX13_maskWord_93 : decode cX13_maskWord 93 = .ok (.aload_n 0, 1) := by decide +kernel
theorem dX13_maskWord_94 : decode cX13_maskWord 94 = .ok (.bipush 112, 2) := by decide +kernel
theorem dX13_maskWord_96 : decode cX13_maskWord 96 = .ok (.bipush 97, 2) := by decide +kernel
theorem dX13_maskWord_98 : decode cX13_maskWord 98 = .ok (.bipush 99, 2) := by decide +kernel
theorem dX13_maskWord_100 : decode cX13_maskWord 100 = .ok (.bipush 107, 2) := by decide +kernel
theorem dX13_maskWord_102 : decode cX13_maskWord 102 = .ok (.iconst 0, 1) := by decide +kernel
theorem dX13_maskWord_103 : decode cX13_maskWord 103 = .ok (.iconst 0, 1) := by decide +kernel
theorem dX13_maskWord_104 : decode cX13_maskWord 104 = .ok (.invokestatic 161, 3) := by decide +kernel
theorem dX13_maskWord_107 : decode cX13_maskWord 107 = .ok (.invokevirtual 165, 3) := by decide +kernel
theorem dX13_maskWord_110 : decode cX13_maskWord 110 = .ok (.ifCond .eq 8, 3) := by decide +kernel
theorem dX13_maskWord_113 : decode cX13_maskWord 113 = .ok (.bipush 21, 2) := by decide +kernel
theorem dX13_maskWord_115 : decode cX13_maskWord 115 = .ok (.goto 4, 3) := by decide +kernel
theorem dX13_maskWord_118 : decode cX13_maskWord 118 = .ok (.iconst (-1), 1) := by decide +kernel
theorem dX13_maskWord_119 : decode cX13_maskWord 119 = .ok (.ireturn, 1) := by decide +kernel
def pX13_maskWord (g : MT) (h : CT) (this : Nat) : Option Int32 := tg g this 12 (bd (pX13_isWord g h this (pX13_spelled 108 101 115 115 0 0)) fun x1 => (if x1 = 0 then bd (pX13_isWord g h this (pX13_spelled 115 97 109 101 0 0)) fun x4 => (if x4 = 0 then bd (pX13_isWord g h this (pX13_spelled 111 100 100 0 0 0)) fun x7 => (if x7 = 0 then bd (pX13_isWord g h this (pX13_spelled 102 108 105 112 0 0)) fun x10 => (if x10 = 0 then bd (pX13_isWord g h this (pX13_spelled 112 97 99 107 0 0)) fun x13 => (if x13 = 0 then some (-1) else some 21) else some 20) else some 19) else some 18) else some 17))
set_option maxRecDepth 10000 in
set_option maxHeartbeats 4000000 in
theorem pX13_maskWord_ok (G : Gx) (dk : Nat) (hK : 1 ≤ dk) {g : MT} {h : CT} {this : Nat} {r0 : Int32} (hf : pX13_maskWord g h this = some r0) : Ctr G dk yX13_maskWord cX13_maskWord 1 (some .int) [va_rf (some this)] g h (some (.int r0)) g h := by
  refine Ctr.ofZ (lv := [(0, va_rf (some this))]) (by decide +kernel) (by simp [cat_i, cat_l, cat_d, cat_rf]) rfl fun X Z => ?_
  unfold pX13_maskWord at hf
  obtain ⟨t0, hf⟩ := tg_i hf
  refine J_aload_n Z.1 0 dX13_maskWord_0 rfl rfl ?_
  refine J_bipush Z.1 (v := 108) (by decide) dX13_maskWord_1 ?_
  refine J_bipush Z.1 (v := 101) (by decide) dX13_maskWord_3 ?_
  refine J_bipush Z.1 (v := 115) (by decide) dX13_maskWord_5 ?_
  refine J_bipush Z.1 (v := 115) (by decide) dX13_maskWord_7 ?_
  refine J_iconst Z.1 (v := 0) (by decide) dX13_maskWord_9 ?_
  refine J_iconst Z.1 (v := 0) (by decide) dX13_maskWord_10 ?_
  refine J_callS (as := [.int 108, .int 101, .int 115, .int 115, .int 0, .int 0]) (rest := [va_rf (some this)]) (sy := [.long (pX13_spelled 108 101 115 115 0 0), va_rf (some this)]) Z.1 dX13_maskWord_11 cw_X13_161 (pX13_spelled_ok G (dk - 1) (by omega) g h 108 101 115 115 0 0) (zG Z) rfl (by simp [cat_i, cat_l, cat_d, cat_rf]) (zF Z (by omega)) (zO Z (by omega) (by decide)) (zM _) Z.2.1 Z.2.1 rfl rfl ?_
  obtain ⟨x1, q2, hf⟩ := bd_i hf
  refine J_callV (ci := 11) (as := [.long (pX13_spelled 108 101 115 115 0 0)]) (rest := []) (sy := [.int x1]) Z.1 dX13_maskWord_14 cw_X13_165 (pX13_isWord_ok G (dk - 1) (by omega) q2) rfl rfl t0 (zG Z) rfl (by decide) (zF Z (by omega)) (zO Z (by omega) (by decide)) (zM _) Z.2.1 Z.2.1 rfl rfl ?_
  refine J_if_eq Z.1 23 dX13_maskWord_17 (by decide) (fun c3 => ?_) (fun c3 => ?_)
  · rw [if_pos c3] at hf
    refine J_aload_n Z.1 0 dX13_maskWord_23 rfl rfl ?_
    refine J_bipush Z.1 (v := 115) (by decide) dX13_maskWord_24 ?_
    refine J_bipush Z.1 (v := 97) (by decide) dX13_maskWord_26 ?_
    refine J_bipush Z.1 (v := 109) (by decide) dX13_maskWord_28 ?_
    refine J_bipush Z.1 (v := 101) (by decide) dX13_maskWord_30 ?_
    refine J_iconst Z.1 (v := 0) (by decide) dX13_maskWord_32 ?_
    refine J_iconst Z.1 (v := 0) (by decide) dX13_maskWord_33 ?_
    refine J_callS (as := [.int 115, .int 97, .int 109, .int 101, .int 0, .int 0]) (rest := [va_rf (some this)]) (sy := [.long (pX13_spelled 115 97 109 101 0 0), va_rf (some this)]) Z.1 dX13_maskWord_34 cw_X13_161 (pX13_spelled_ok G (dk - 1) (by omega) g h 115 97 109 101 0 0) (zG Z) rfl (by simp [cat_i, cat_l, cat_d, cat_rf]) (zF Z (by omega)) (zO Z (by omega) (by decide)) (zM _) Z.2.1 Z.2.1 rfl rfl ?_
    obtain ⟨x4, q5, hf⟩ := bd_i hf
    refine J_callV (ci := 11) (as := [.long (pX13_spelled 115 97 109 101 0 0)]) (rest := []) (sy := [.int x4]) Z.1 dX13_maskWord_37 cw_X13_165 (pX13_isWord_ok G (dk - 1) (by omega) q5) rfl rfl t0 (zG Z) rfl (by decide) (zF Z (by omega)) (zO Z (by omega) (by decide)) (zM _) Z.2.1 Z.2.1 rfl rfl ?_
    refine J_if_eq Z.1 46 dX13_maskWord_40 (by decide) (fun c6 => ?_) (fun c6 => ?_)
    · rw [if_pos c6] at hf
      refine J_aload_n Z.1 0 dX13_maskWord_46 rfl rfl ?_
      refine J_bipush Z.1 (v := 111) (by decide) dX13_maskWord_47 ?_
      refine J_bipush Z.1 (v := 100) (by decide) dX13_maskWord_49 ?_
      refine J_bipush Z.1 (v := 100) (by decide) dX13_maskWord_51 ?_
      refine J_iconst Z.1 (v := 0) (by decide) dX13_maskWord_53 ?_
      refine J_iconst Z.1 (v := 0) (by decide) dX13_maskWord_54 ?_
      refine J_iconst Z.1 (v := 0) (by decide) dX13_maskWord_55 ?_
      refine J_callS (as := [.int 111, .int 100, .int 100, .int 0, .int 0, .int 0]) (rest := [va_rf (some this)]) (sy := [.long (pX13_spelled 111 100 100 0 0 0), va_rf (some this)]) Z.1 dX13_maskWord_56 cw_X13_161 (pX13_spelled_ok G (dk - 1) (by omega) g h 111 100 100 0 0 0) (zG Z) rfl (by simp [cat_i, cat_l, cat_d, cat_rf]) (zF Z (by omega)) (zO Z (by omega) (by decide)) (zM _) Z.2.1 Z.2.1 rfl rfl ?_
      obtain ⟨x7, q8, hf⟩ := bd_i hf
      refine J_callV (ci := 11) (as := [.long (pX13_spelled 111 100 100 0 0 0)]) (rest := []) (sy := [.int x7]) Z.1 dX13_maskWord_59 cw_X13_165 (pX13_isWord_ok G (dk - 1) (by omega) q8) rfl rfl t0 (zG Z) rfl (by decide) (zF Z (by omega)) (zO Z (by omega) (by decide)) (zM _) Z.2.1 Z.2.1 rfl rfl ?_
      refine J_if_eq Z.1 68 dX13_maskWord_62 (by decide) (fun c9 => ?_) (fun c9 => ?_)
      · rw [if_pos c9] at hf
        refine J_aload_n Z.1 0 dX13_maskWord_68 rfl rfl ?_
        refine J_bipush Z.1 (v := 102) (by decide) dX13_maskWord_69 ?_
        refine J_bipush Z.1 (v := 108) (by decide) dX13_maskWord_71 ?_
        refine J_bipush Z.1 (v := 105) (by decide) dX13_maskWord_73 ?_
        refine J_bipush Z.1 (v := 112) (by decide) dX13_maskWord_75 ?_
        refine J_iconst Z.1 (v := 0) (by decide) dX13_maskWord_77 ?_
        refine J_iconst Z.1 (v := 0) (by decide) dX13_maskWord_78 ?_
        refine J_callS (as := [.int 102, .int 108, .int 105, .int 112, .int 0, .int 0]) (rest := [va_rf (some this)]) (sy := [.long (pX13_spelled 102 108 105 112 0 0), va_rf (some this)]) Z.1 dX13_maskWord_79 cw_X13_161 (pX13_spelled_ok G (dk - 1) (by omega) g h 102 108 105 112 0 0) (zG Z) rfl (by simp [cat_i, cat_l, cat_d, cat_rf]) (zF Z (by omega)) (zO Z (by omega) (by decide)) (zM _) Z.2.1 Z.2.1 rfl rfl ?_
        obtain ⟨x10, q11, hf⟩ := bd_i hf
        refine J_callV (ci := 11) (as := [.long (pX13_spelled 102 108 105 112 0 0)]) (rest := []) (sy := [.int x10]) Z.1 dX13_maskWord_82 cw_X13_165 (pX13_isWord_ok G (dk - 1) (by omega) q11) rfl rfl t0 (zG Z) rfl (by decide) (zF Z (by omega)) (zO Z (by omega) (by decide)) (zM _) Z.2.1 Z.2.1 rfl rfl ?_
        refine J_if_eq Z.1 93 dX13_maskWord_85 (by decide) (fun c12 => ?_) (fun c12 => ?_)
        · rw [if_pos c12] at hf
          refine J_aload_n Z.1 0 dX13_maskWord_93 rfl rfl ?_
          refine J_bipush Z.1 (v := 112) (by decide) dX13_maskWord_94 ?_
          refine J_bipush Z.1 (v := 97) (by decide) dX13_maskWord_96 ?_
          refine J_bipush Z.1 (v := 99) (by decide) dX13_maskWord_98 ?_
          refine J_bipush Z.1 (v := 107) (by decide) dX13_maskWord_100 ?_
          refine J_iconst Z.1 (v := 0) (by decide) dX13_maskWord_102 ?_
          refine J_iconst Z.1 (v := 0) (by decide) dX13_maskWord_103 ?_
          refine J_callS (as := [.int 112, .int 97, .int 99, .int 107, .int 0, .int 0]) (rest := [va_rf (some this)]) (sy := [.long (pX13_spelled 112 97 99 107 0 0), va_rf (some this)]) Z.1 dX13_maskWord_104 cw_X13_161 (pX13_spelled_ok G (dk - 1) (by omega) g h 112 97 99 107 0 0) (zG Z) rfl (by simp [cat_i, cat_l, cat_d, cat_rf]) (zF Z (by omega)) (zO Z (by omega) (by decide)) (zM _) Z.2.1 Z.2.1 rfl rfl ?_
          obtain ⟨x13, q14, hf⟩ := bd_i hf
          refine J_callV (ci := 11) (as := [.long (pX13_spelled 112 97 99 107 0 0)]) (rest := []) (sy := [.int x13]) Z.1 dX13_maskWord_107 cw_X13_165 (pX13_isWord_ok G (dk - 1) (by omega) q14) rfl rfl t0 (zG Z) rfl (by decide) (zF Z (by omega)) (zO Z (by omega) (by decide)) (zM _) Z.2.1 Z.2.1 rfl rfl ?_
          refine J_if_eq Z.1 118 dX13_maskWord_110 (by decide) (fun c15 => ?_) (fun c15 => ?_)
          · rw [if_pos c15] at hf
            refine J_iconst Z.1 (v := (-1)) (by decide) dX13_maskWord_118 ?_
            cases hf
            exact J_iret Z.1 Z.2.2.2.2.2 dX13_maskWord_119
          · rw [if_neg c15] at hf
            refine J_bipush Z.1 (v := 21) (by decide) dX13_maskWord_113 ?_
            refine J_goto Z.1 119 dX13_maskWord_115 (by decide) ?_
            cases hf
            exact J_iret Z.1 Z.2.2.2.2.2 dX13_maskWord_119
        · rw [if_neg c12] at hf
          refine J_bipush Z.1 (v := 20) (by decide) dX13_maskWord_88 ?_
          refine J_goto Z.1 119 dX13_maskWord_90 (by decide) ?_
          cases hf
          exact J_iret Z.1 Z.2.2.2.2.2 dX13_maskWord_119
      · rw [if_neg c9] at hf
        refine J_bipush Z.1 (v := 19) (by decide) dX13_maskWord_65 ?_
        cases hf
        exact J_iret Z.1 Z.2.2.2.2.2 dX13_maskWord_67
    · rw [if_neg c6] at hf
      refine J_bipush Z.1 (v := 18) (by decide) dX13_maskWord_43 ?_
      cases hf
      exact J_iret Z.1 Z.2.2.2.2.2 dX13_maskWord_45
  · rw [if_neg c3] at hf
    refine J_bipush Z.1 (v := 17) (by decide) dX13_maskWord_20 ?_
    cases hf
    exact J_iret Z.1 Z.2.2.2.2.2 dX13_maskWord_22
