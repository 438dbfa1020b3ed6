/-! written by wip/whole/gen.py out of the printed bytecode -/
theorem dX13_has_0 : decode cX13_has 0 = .ok (.iload_n 0, 1) := by decide +kernel
theorem dX13_has_1 : decode cX13_has 1 = .ok (.iload_n 1, 1) := by decide +kernel
theorem dX13_has_2 : decode cX13_has 2 = .ok (.ishr, 1) := by decide +kernel
theorem dX13_has_3 : decode cX13_has 3 = .ok (.iconst 1, 1) := by decide +kernel
theorem dX13_has_4 : decode cX13_has 4 = .ok (.iand, 1) := by decide +kernel
theorem dX13_has_5 : decode cX13_has 5 = .ok (.iconst 1, 1) := by decide +kernel
theorem dX13_has_6 : decode cX13_has 6 = .ok (.if_icmp .ne 7, 3) := by decide +kernel
theorem dX13_has_9 : decode cX13_has 9 = .ok (.iconst 1, 1) := by decide +kernel
theorem dX13_has_10 : decode cX13_has 10 = .ok (.goto 4, 3) := by decide +kernel
theorem dX13_has_13 : decode cX13_has 13 = .ok (.iconst 0, 1) := by decide +kernel
theorem dX13_has_14 : decode cX13_has 14 = .ok (.ireturn, 1) := by decide +kernel
def pX13_has (p0 : Int32) (p1 : Int32) : Int32 := if ((p0 >>> (p1 &&& 31)) &&& 1) = 1 then 1 else 0
set_option maxRecDepth 10000 in
set_option maxHeartbeats 4000000 in
theorem pX13_has_ok (G : Gx) (dk : Nat) (hK : 0 ≤ dk) (g : MT) (h0 : CT) (p0 : Int32) (p1 : Int32) : Ctr G dk yX13_has cX13_has 2 (some .boolean) [.int p0, .int p1] g h0 (some (.int (pX13_has p0 p1))) g h0 := by
  obtain ⟨r0, hf⟩ : ∃ z, pX13_has p0 p1 = z := ⟨_, rfl⟩
  rw [hf]
  refine Ctr.ofZ (lv := [(0, .int p0), (1, .int p1)]) (by decide +kernel) (by simp [cat_i, cat_l, cat_d, cat_rf]) rfl fun X Z => ?_
  unfold pX13_has at hf
  refine J_iload_n Z.1 0 dX13_has_0 rfl rfl ?_
  refine J_iload_n Z.1 1 dX13_has_1 rfl rfl ?_
  refine J_ishr Z.1 dX13_has_2 ?_
  refine J_iconst Z.1 (v := 1) (by decide) dX13_has_3 ?_
  refine J_iand Z.1 dX13_has_4 ?_
  refine J_iconst Z.1 (v := 1) (by decide) dX13_has_5 ?_
  refine J_icmp_ne Z.1 13 dX13_has_6 (by decide) (fun c1 => ?_) (fun c1 => ?_)
  · rw [if_neg c1] at hf
    refine J_iconst Z.1 (v := 0) (by decide) dX13_has_13 ?_
    cases hf
    exact J_zret Z.1 Z.2.2.2.2.2 (z_n (Or.inl rfl)) dX13_has_14
  · rw [if_pos c1] at hf
    refine J_iconst Z.1 (v := 1) (by decide) dX13_has_9 ?_
    refine J_goto Z.1 14 dX13_has_10 (by decide) ?_
    cases hf
    exact J_zret Z.1 Z.2.2.2.2.2 (z_n (Or.inr rfl)) dX13_has_14
theorem pX13_has_z (p0 : Int32) (p1 : Int32) : is01 (pX13_has p0 p1) := by
  unfold pX13_has
  (try split) <;> (try split) <;> (try split) <;> (try split) <;> (try split) <;> (try split) <;> (try split) <;> (try split) <;> first | exact Or.inl rfl | exact Or.inr rfl
theorem dX13_kindOf_0 : decode cX13_kindOf 0 = .ok (.dload_n 0, 1) := by decide +kernel
theorem dX13_kindOf_1 : decode cX13_kindOf 1 = .ok (.dload_n 0, 1) := by decide +kernel
theorem dX13_kindOf_2 : decode cX13_kindOf 2 = .ok (.dcmp .l, 1) := by decide +kernel
theorem dX13_kindOf_3 : decode cX13_kindOf 3 = .ok (.ifCond .eq 5, 3) := by decide +kernel
theorem dX13_kindOf_6 : decode cX13_kindOf 6 = .ok (.iconst 5, 1) := by decide +kernel
theorem dX13_kindOf_7 : decode cX13_kindOf 7 = .ok (.ireturn, 1) := by decide +kernel
theorem dX13_kindOf_8 : decode cX13_kindOf 8 = .ok (.dload_n 0, 1) := by decide +kernel
theorem dX13_kindOf_9 : decode cX13_kindOf 9 = .ok (.dconst 0, 1) := by decide +kernel
theorem dX13_kindOf_10 : decode cX13_kindOf 10 = .ok (.dcmp .l, 1) := by decide +kernel
theorem dX13_kindOf_11 : decode cX13_kindOf 11 = .ok (.ifCond .ne 17, 3) := by decide +kernel
theorem dX13_kindOf_14 : decode cX13_kindOf 14 = .ok (.dconst 1, 1) := by decide +kernel
theorem dX13_kindOf_15 : decode cX13_kindOf 15 = .ok (.dload_n 0, 1) := by decide +kernel
theorem dX13_kindOf_16 : decode cX13_kindOf 16 = .ok (.ddiv, 1) := by decide +kernel
theorem dX13_kindOf_17 : decode cX13_kindOf 17 = .ok (.dconst 0, 1) := by decide +kernel
theorem dX13_kindOf_18 : decode cX13_kindOf 18 = .ok (.dcmp .g, 1) := by decide +kernel
theorem dX13_kindOf_19 : decode cX13_kindOf 19 = .ok (.ifCond .ge 7, 3) := by decide +kernel
theorem dX13_kindOf_22 : decode cX13_kindOf 22 = .ok (.iconst 2, 1) := by decide +kernel
theorem dX13_kindOf_23 : decode cX13_kindOf 23 = .ok (.goto 4, 3) := by decide +kernel
theorem dX13_kindOf_26 : decode cX13_kindOf 26 = .ok (.iconst 1, 1) := by decide +kernel
theorem dX13_kindOf_27 : decode cX13_kindOf 27 = .ok (.ireturn, 1) := by decide +kernel
theorem dX13_kindOf_28 : decode cX13_kindOf 28 = .ok (.dload_n 0, 1) := by decide +kernel
theorem dX13_kindOf_29 : decode cX13_kindOf 29 = .ok (.dload_n 0, 1) := by decide +kernel
theorem dX13_kindOf_30 : decode cX13_kindOf 30 = .ok (.dsub, 1) := by decide +kernel
theorem dX13_kindOf_31 : decode cX13_kindOf 31 = .ok (.dconst 0, 1) := by decide +kernel
theorem dX13_kindOf_32 : decode cX13_kindOf 32 = .ok (.dcmp .l, 1) := by decide +kernel
theorem dX13_kindOf_33 : decode cX13_kindOf 33 = .ok (.ifCond .eq 15, 3) := by decide +kernel
theorem dX13_kindOf_36 : decode cX13_kindOf 36 = .ok (.dload_n 0, 1) := by decide +kernel
theorem dX13_kindOf_37 : decode cX13_kindOf 37 = .ok (.dconst 0, 1) := by decide +kernel
theorem dX13_kindOf_38 : decode cX13_kindOf 38 = .ok (.dcmp .l, 1) := by decide +kernel
theorem dX13_kindOf_39 : decode cX13_kindOf 39 = .ok (.ifCond .le 7, 3) := by decide +kernel
theorem dX13_kindOf_42 : decode cX13_kindOf 42 = .ok (.iconst 3, 1) := by decide +kernel
theorem dX13_kindOf_43 : decode cX13_kindOf 43 = .ok (.goto 4, 3) := by decide +kernel
theorem dX13_kindOf_46 : decode cX13_kindOf 46 = .ok (.iconst 4, 1) := by decide +kernel
theorem dX13_kindOf_47 : decode cX13_kindOf 47 = .ok (.ireturn, 1) := by decide +kernel
theorem dX13_kindOf_48 : decode cX13_kindOf 48 = .ok (.iconst 0, 1) := by decide +kernel
theorem dX13_kindOf_49 : decode cX13_kindOf 49 = .ok (.ireturn, 1) := by decide +kernel
def pX13_kindOf (p0 : UInt64) : Int32 := if (Op.cmpValue (FP.dcmp p0 p0) .l) = 0 then if (Op.cmpValue (FP.dcmp p0 0) .l) = 0 then if 0 ≤ (Op.cmpValue (FP.dcmp (fdiv 4607182418800017408 p0) 0) .g) then 1 else 2 else if (Op.cmpValue (FP.dcmp (fsub p0 p0) 0) .l) = 0 then 0 else if (Op.cmpValue (FP.dcmp p0 0) .l) ≤ 0 then 4 else 3 else 5
set_option maxRecDepth 10000 in
set_option maxHeartbeats 4000000 in
theorem pX13_kindOf_ok (G : Gx) (dk : Nat) (hK : 0 ≤ dk) (g : MT) (h0 : CT) (p0 : UInt64) : Ctr G dk yX13_kindOf cX13_kindOf 2 (some .int) [.double p0] g h0 (some (.int (pX13_kindOf p0))) g h0 := by
  obtain ⟨r0, hf⟩ : ∃ z, pX13_kindOf p0 = z := ⟨_, rfl⟩
  rw [hf]
  refine Ctr.ofZ (lv := [(0, .double p0)]) (by decide +kernel) (by simp [cat_i, cat_l, cat_d, cat_rf]) rfl fun X Z => ?_
  unfold pX13_kindOf at hf
  refine J_dload_n Z.1 0 dX13_kindOf_0 rfl rfl ?_
  refine J_dload_n Z.1 0 dX13_kindOf_1 rfl rfl ?_
  refine J_dcmp Z.1 dX13_kindOf_2 ?_
  refine J_if_eq Z.1 8 dX13_kindOf_3 (by decide) (fun c1 => ?_) (fun c1 => ?_)
  · rw [if_pos c1] at hf
    refine J_dload_n Z.1 0 dX13_kindOf_8 rfl rfl ?_
    refine J_dconst0 Z.1 dX13_kindOf_9 ?_
    refine J_dcmp Z.1 dX13_kindOf_10 ?_
    refine J_if_ne Z.1 28 dX13_kindOf_11 (by decide) (fun c2 => ?_) (fun c2 => ?_)
    · rw [if_neg c2] at hf
      refine J_dload_n Z.1 0 dX13_kindOf_28 rfl rfl ?_
      refine J_dload_n Z.1 0 dX13_kindOf_29 rfl rfl ?_
      refine J_dsub Z.1 dX13_kindOf_30 ?_
      refine J_dconst0 Z.1 dX13_kindOf_31 ?_
      refine J_dcmp Z.1 dX13_kindOf_32 ?_
      refine J_if_eq Z.1 48 dX13_kindOf_33 (by decide) (fun c3 => ?_) (fun c3 => ?_)
      · rw [if_pos c3] at hf
        refine J_iconst Z.1 (v := 0) (by decide) dX13_kindOf_48 ?_
        cases hf
        exact J_iret Z.1 Z.2.2.2.2.2 dX13_kindOf_49
      · rw [if_neg c3] at hf
        refine J_dload_n Z.1 0 dX13_kindOf_36 rfl rfl ?_
        refine J_dconst0 Z.1 dX13_kindOf_37 ?_
        refine J_dcmp Z.1 dX13_kindOf_38 ?_
        refine J_if_le Z.1 46 dX13_kindOf_39 (by decide) (fun c4 => ?_) (fun c4 => ?_)
        · rw [if_pos c4] at hf
          refine J_iconst Z.1 (v := 4) (by decide) dX13_kindOf_46 ?_
          cases hf
          exact J_iret Z.1 Z.2.2.2.2.2 dX13_kindOf_47
        · rw [if_neg c4] at hf
          refine J_iconst Z.1 (v := 3) (by decide) dX13_kindOf_42 ?_
          refine J_goto Z.1 47 dX13_kindOf_43 (by decide) ?_
          cases hf
          exact J_iret Z.1 Z.2.2.2.2.2 dX13_kindOf_47
    · rw [if_pos c2] at hf
      refine J_dconst1 Z.1 dX13_kindOf_14 ?_
      refine J_dload_n Z.1 0 dX13_kindOf_15 rfl rfl ?_
      refine J_ddiv Z.1 dX13_kindOf_16 ?_
      refine J_dconst0 Z.1 dX13_kindOf_17 ?_
      refine J_dcmp Z.1 dX13_kindOf_18 ?_
      refine J_if_ge Z.1 26 dX13_kindOf_19 (by decide) (fun c5 => ?_) (fun c5 => ?_)
      · rw [if_pos c5] at hf
        refine J_iconst Z.1 (v := 1) (by decide) dX13_kindOf_26 ?_
        cases hf
        exact J_iret Z.1 Z.2.2.2.2.2 dX13_kindOf_27
      · rw [if_neg c5] at hf
        refine J_iconst Z.1 (v := 2) (by decide) dX13_kindOf_22 ?_
        refine J_goto Z.1 27 dX13_kindOf_23 (by decide) ?_
        cases hf
        exact J_iret Z.1 Z.2.2.2.2.2 dX13_kindOf_27
  · rw [if_neg c1] at hf
    refine J_iconst Z.1 (v := 5) (by decide) dX13_kindOf_6 ?_
    cases hf
    exact J_iret Z.1 Z.2.2.2.2.2 dX13_kindOf_7
theorem dX13_tells_0 : decode cX13_tells 0 = .ok (.dload_n 1, 1) := by decide +kernel
theorem dX13_tells_1 : decode cX13_tells 1 = .ok (.invokestatic 108, 3) := by decide +kernel
theorem dX13_tells_4 : decode cX13_tells 4 = .ok (.istore_n 3, 1) := by decide +kernel
theorem dX13_tells_5 : decode cX13_tells 5 = .ok (.aload_n 0, 1) := by decide +kernel
theorem dX13_tells_6 : decode cX13_tells 6 = .ok (.lconst 0, 1) := by decide +kernel
theorem dX13_tells_7 : decode cX13_tells 7 = .ok (.putfield 77, 3) := by decide +kernel
theorem dX13_tells_10 : decode cX13_tells 10 = .ok (.aload_n 0, 1) := by decide +kernel
theorem dX13_tells_11 : decode cX13_tells 11 = .ok (.iconst 0, 1) := by decide +kernel
theorem dX13_tells_12 : decode cX13_tells 12 = .ok (.putfield 81, 3) := by decide +kernel
theorem dX13_tells_15 : decode cX13_tells 15 = .ok (.iload_n 3, 1) := by decide +kernel
theorem dX13_tells_16 : decode cX13_tells 16 = .ok (.ifCond .le 5, 3) := by decide +kernel
theorem dX13_tells_19 : decode cX13_tells 19 = .ok (.iload_n 3, 1) := by decide +kernel
theorem dX13_tells_20 : decode cX13_tells 20 = .ok (.ireturn, 1) := by decide +kernel
theorem dX13_tells_21 : decode cX13_tells 21 = .ok (.dload_n 1, 1) := by decide +kernel
theorem dX13_tells_22 : decode cX13_tells 22 = .ok (.dstore 4, 2) := by decide +kernel
theorem dX13_tells_24 : decode cX13_tells 24 = .ok (.iconst 0, 1) := by decide +kernel
theorem dX13_tells_25 : decode cX13_tells 25 = .ok (.istore 6, 2) := by decide +kernel
theorem dX13_tells_27 : decode cX13_tells 27 = .ok (.dload 4, 2) := by decide +kernel
theorem dX13_tells_29 : decode cX13_tells 29 = .ok (.ldc2_w 112, 3) := by decide +kernel
theorem dX13_tells_32 : decode cX13_tells 32 = .ok (.dcmp .l, 1) := by decide +kernel
theorem dX13_tells_33 : decode cX13_tells 33 = .ok (.ifCond .ge 12, 3) := by decide +kernel
theorem dX13_tells_36 : decode cX13_tells 36 = .ok (.dload 4, 2) := by decide +kernel
theorem dX13_tells_38 : decode cX13_tells 38 = .ok (.ldc2_w 114, 3) := by decide +kernel
theorem dX13_tells_41 : decode cX13_tells 41 = .ok (.dcmp .g, 1) := by decide +kernel
theorem dX13_tells_42 : decode cX13_tells 42 = .ok (.ifCond .gt 17, 3) := by decide +kernel
theorem dX13_tells_45 : decode cX13_tells 45 = .ok (.dload 4, 2) := by decide +kernel
theorem dX13_tells_47 : decode cX13_tells 47 = .ok (.ldc2_w 116, 3) := by decide +kernel
theorem dX13_tells_50 : decode cX13_tells 50 = .ok (.ddiv, 1) := by decide +kernel
theorem dX13_tells_51 : decode cX13_tells 51 = .ok (.dstore 4, 2) := by decide +kernel
theorem dX13_tells_53 : decode cX13_tells 53 = .ok (.iinc 6 1, 3) := by decide +kernel
theorem dX13_tells_56 : decode cX13_tells 56 = .ok (.goto (-29), 3) := by decide +kernel
theorem dX13_tells_59 : decode cX13_tells 59 = .ok (.dload 4, 2) := by decide +kernel
theorem dX13_tells_61 : decode cX13_tells 61 = .ok (.d2l, 1) := by decide +kernel
theorem dX13_tells_62 : decode cX13_tells 62 = .ok (.l2d, 1) := by decide +kernel
theorem dX13_tells_63 : decode cX13_tells 63 = .ok (.dload 4, 2) := by decide +kernel
theorem dX13_tells_65 : decode cX13_tells 65 = .ok (.dcmp .l, 1) := by decide +kernel
theorem dX13_tells_66 : decode cX13_tells 66 = .ok (.ifCond .eq 17, 3) := by decide +kernel
theorem dX13_tells_69 : decode cX13_tells 69 = .ok (.dload 4, 2) := by decide +kernel
theorem dX13_tells_71 : decode cX13_tells 71 = .ok (.ldc2_w 116, 3) := by decide +kernel
theorem dX13_tells_74 : decode cX13_tells 74 = .ok (.dmul, 1) := by decide +kernel
theorem dX13_tells_75 : decode cX13_tells 75 = .ok (.dstore 4, 2) := by decide +kernel
theorem dX13_tells_77 : decode cX13_tells 77 = .ok (.iinc 6 (-1), 3) := by decide +kernel
theorem dX13_tells_80 : decode cX13_tells 80 = .ok (.goto (-21), 3) := by decide +kernel
theorem dX13_tells_83 : decode cX13_tells 83 = .ok (.dload 4, 2) := by decide +kernel
theorem dX13_tells_85 : decode cX13_tells 85 = .ok (.d2l, 1) := by decide +kernel
theorem dX13_tells_86 : decode cX13_tells 86 = .ok (.lstore 7, 2) := by decide +kernel
theorem dX13_tells_88 : decode cX13_tells 88 = .ok (.lload 7, 2) := by decide +kernel
theorem dX13_tells_90 : decode cX13_tells 90 = .ok (.ldc2_w 118, 3) := by decide +kernel
theorem dX13_tells_93 : decode cX13_tells 93 = .ok (.lrem, 1) := by decide +kernel
theorem dX13_tells_94 : decode cX13_tells 94 = .ok (.lconst 0, 1) := by decide +kernel
theorem dX13_tells_95 : decode cX13_tells 95 = .ok (.lcmp, 1) := by decide +kernel
theorem dX13_tells_96 : decode cX13_tells 96 = .ok (.ifCond .ne 17, 3) := by decide +kernel
theorem dX13_tells_99 : decode cX13_tells 99 = .ok (.lload 7, 2) := by decide +kernel
theorem dX13_tells_101 : decode cX13_tells 101 = .ok (.ldc2_w 118, 3) := by decide +kernel
theorem dX13_tells_104 : decode cX13_tells 104 = .ok (.ldiv, 1) := by decide +kernel
theorem dX13_tells_105 : decode cX13_tells 105 = .ok (.lstore 7, 2) := by decide +kernel
theorem dX13_tells_107 : decode cX13_tells 107 = .ok (.iinc 6 1, 3) := by decide +kernel
theorem dX13_tells_110 : decode cX13_tells 110 = .ok (.goto (-22), 3) := by decide +kernel
theorem dX13_tells_113 : decode cX13_tells 113 = .ok (.aload_n 0, 1) := by decide +kernel
theorem dX13_tells_114 : decode cX13_tells 114 = .ok (.lload 7, 2) := by decide +kernel
theorem dX13_tells_116 : decode cX13_tells 116 = .ok (.putfield 77, 3) := by decide +kernel
theorem dX13_tells_119 : decode cX13_tells 119 = .ok (.aload_n 0, 1) := by decide +kernel
theorem dX13_tells_120 : decode cX13_tells 120 = .ok (.iload 6, 2) := by decide +kernel
theorem dX13_tells_122 : decode cX13_tells 122 = .ok (.putfield 81, 3) := by decide +kernel
theorem dX13_tells_125 : decode cX13_tells 125 = .ok (.iload_n 3, 1) := by decide +kernel
theorem dX13_tells_126 : decode cX13_tells 126 = .ok (.ireturn, 1) := by decide +kernel
def pX13_tells_b45 (g : MT) (this : Nat) (p1 : UInt64) (k27 : Int32 → UInt64 → Int32 → CT → Option ((Int32) × CT)) (l3 : Int32) (l4 : UInt64) (l6 : Int32) (h : CT) : Option ((Int32) × CT) := lt (fdiv l4 4611686018427387904) fun x1 => (lt (l6 + 1) fun x2 => (k27 l3 x1 x2 h))
set_option maxRecDepth 10000 in
set_option maxHeartbeats 4000000 in
theorem pX13_tells_b45_ok {X : Cx} {G : Gx} {dk : Nat} {g : MT} {r0 : Int32} {h0 : CT} {this : Nat} {p1 : UInt64} {k27 : Int32 → UInt64 → Int32 → CT → Option ((Int32) × CT)} (Z : Zx X G cX13_tells RX13 9 dk (some .int) (some (.int r0)) g h0) (hK : 1 ≤ dk) (t0 : gT g this = 12) (hk27 : ∀ (l3 : Int32) (l4 : UInt64) (l6 : Int32) (h : CT), k27 l3 l4 l6 h = some (r0, h0) → J X g h 27 [(0, va_rf (some this)), (3, .int l3), (4, .double l4), (6, .int l6)] []) (l3 : Int32) (l4 : UInt64) (l6 : Int32) (h : CT) (hf : pX13_tells_b45 g this p1 k27 l3 l4 l6 h = some (r0, h0)) : J X g h 45 [(0, va_rf (some this)), (3, .int l3), (4, .double l4), (6, .int l6)] [] := by
  unfold pX13_tells_b45 at hf
  refine J_dload Z.1 2 dX13_tells_45 rfl ?_
  refine J_ldc2d Z.1 q_1773 (by decide +kernel) dX13_tells_47 ?_
  refine J_ddiv Z.1 dX13_tells_50 ?_
  refine J_td (fun x1 ex1 => ?_)
  replace hf := lt_i hf x1 ex1
  refine J_dstore Z.1 (lv2 := [(4, .double x1), (0, va_rf (some this)), (3, .int l3), (6, .int l6)]) dX13_tells_51 (zL Z (by decide)) rfl ?_
  refine J_iinc Z.1 (v := 1) (lv2 := [(6, .int (l6 + 1)), (4, .double x1), (0, va_rf (some this)), (3, .int l3)]) 3 dX13_tells_53 rfl (by decide) (zL Z (by decide)) rfl ?_
  obtain ⟨x2, ex2⟩ : ∃ z, z = (l6 + 1) := ⟨_, rfl⟩
  replace hf := lt_i hf x2 ex2
  rw [← ex2]
  refine J_goto Z.1 27 dX13_tells_56 (by decide) ?_
  refine J_lv [2, 3, 1, 0] rfl ?_
  exact hk27 _ _ _ _ hf
def pX13_tells_b88 (g : MT) (this : Nat) (p1 : UInt64) (k88 : Int32 → Int32 → Int64 → CT → Option ((Int32) × CT)) (l3 : Int32) (l6 : Int32) (l7 : Int64) (h : CT) : Option ((Int32) × CT) := if (lg_cmp (l7 - l7 / 2 * 2) 0) = 0 then lt (l7 / 2) fun x4 => (lt (l6 + 1) fun x5 => (k88 l3 x5 x4 h)) else lt (sL h this 2 l7) fun h2 => (lt (sI h2 this 3 l6) fun h3 => (some (l3, h3)))
set_option maxRecDepth 10000 in
set_option maxHeartbeats 4000000 in
theorem pX13_tells_b88_ok {X : Cx} {G : Gx} {dk : Nat} {g : MT} {r0 : Int32} {h0 : CT} {this : Nat} {p1 : UInt64} {k88 : Int32 → Int32 → Int64 → CT → Option ((Int32) × CT)} (Z : Zx X G cX13_tells RX13 9 dk (some .int) (some (.int r0)) g h0) (hK : 1 ≤ dk) (t0 : gT g this = 12) (hk88 : ∀ (l3 : Int32) (l6 : Int32) (l7 : Int64) (h : CT), k88 l3 l6 l7 h = some (r0, h0) → J X g h 88 [(0, va_rf (some this)), (3, .int l3), (6, .int l6), (7, .long l7)] []) (l3 : Int32) (l6 : Int32) (l7 : Int64) (h : CT) (hf : pX13_tells_b88 g this p1 k88 l3 l6 l7 h = some (r0, h0)) : J X g h 88 [(0, va_rf (some this)), (3, .int l3), (6, .int l6), (7, .long l7)] [] := by
  unfold pX13_tells_b88 at hf
  refine J_lload Z.1 3 dX13_tells_88 rfl ?_
  refine J_ldc2 Z.1 q_1774 dX13_tells_90 ?_
  refine J_lrem Z.1 (by decide) dX13_tells_93 ?_
  refine J_lconst Z.1 (v := 0) (by decide) dX13_tells_94 ?_
  refine J_lcmp Z.1 dX13_tells_95 ?_
  refine J_if_ne Z.1 113 dX13_tells_96 (by decide) (fun c1 => ?_) (fun c1 => ?_)
  · rw [if_neg c1] at hf
    refine J_aload_n Z.1 0 dX13_tells_113 rfl rfl ?_
    refine J_lload Z.1 3 dX13_tells_114 rfl ?_
    refine J_putL Z.1 dX13_tells_116 fl_X13_77 (fun q => by cases q) t0 rfl rfl (congrArg Value.long (hL_s _ _ _ _)) ?_
    refine J_th (fun h2 eh2 => ?_)
    replace hf := lt_i hf h2 eh2
    refine J_aload_n Z.1 0 dX13_tells_119 rfl rfl ?_
    refine J_iload Z.1 2 dX13_tells_120 rfl ?_
    refine J_putI Z.1 dX13_tells_122 fl_X13_81 (fun q => by cases q) t0 rfl rfl (congrArg Value.int (hI_s _ _ _ _)) ?_
    refine J_th (fun h3 eh3 => ?_)
    replace hf := lt_i hf h3 eh3
    refine J_iload_n Z.1 1 dX13_tells_125 rfl rfl ?_
    cases hf
    exact J_iret Z.1 Z.2.2.2.2.2 dX13_tells_126
  · rw [if_pos c1] at hf
    refine J_lload Z.1 3 dX13_tells_99 rfl ?_
    refine J_ldc2 Z.1 q_1774 dX13_tells_101 ?_
    refine J_ldiv Z.1 (by decide) dX13_tells_104 ?_
    refine J_tl (fun x4 ex4 => ?_)
    replace hf := lt_i hf x4 ex4
    refine J_lstore Z.1 (lv2 := [(7, .long x4), (0, va_rf (some this)), (3, .int l3), (6, .int l6)]) dX13_tells_105 (zL Z (by decide)) rfl ?_
    refine J_iinc Z.1 (v := 1) (lv2 := [(6, .int (l6 + 1)), (7, .long x4), (0, va_rf (some this)), (3, .int l3)]) 3 dX13_tells_107 rfl (by decide) (zL Z (by decide)) rfl ?_
    obtain ⟨x5, ex5⟩ : ∃ z, z = (l6 + 1) := ⟨_, rfl⟩
    replace hf := lt_i hf x5 ex5
    rw [← ex5]
    refine J_goto Z.1 88 dX13_tells_110 (by decide) ?_
    refine J_lv [2, 3, 0, 1] rfl ?_
    exact hk88 _ _ _ _ hf
def pX13_tells_l88 (g : MT) (this : Nat) (p1 : UInt64) : Nat → Int32 → Int32 → Int64 → CT → Option ((Int32) × CT)
  | 0, _, _, _, _ => none
  | n + 1, l3, l6, l7, h => pX13_tells_b88 g this p1 (pX13_tells_l88 g this p1 n) l3 l6 l7 h
theorem pX13_tells_l88_ok {X : Cx} {G : Gx} {dk : Nat} {g : MT} {r0 : Int32} {h0 : CT} {this : Nat} {p1 : UInt64} (Z : Zx X G cX13_tells RX13 9 dk (some .int) (some (.int r0)) g h0) (hK : 1 ≤ dk) (t0 : gT g this = 12) : ∀ (n : Nat) (l3 : Int32) (l6 : Int32) (l7 : Int64) (h : CT), pX13_tells_l88 g this p1 n l3 l6 l7 h = some (r0, h0) → J X g h 88 [(0, va_rf (some this)), (3, .int l3), (6, .int l6), (7, .long l7)] [] := by
  intro n
  induction n with
  | zero => intro l3 l6 l7 h hf; cases hf
  | succ n ih => intro l3 l6 l7 h hf; exact pX13_tells_b88_ok Z hK t0 ih l3 l6 l7 h hf
def pX13_tells_b59 (g : MT) (this : Nat) (p1 : UInt64) (k59 : Int32 → UInt64 → Int32 → CT → Option ((Int32) × CT)) (l3 : Int32) (l4 : UInt64) (l6 : Int32) (h : CT) : Option ((Int32) × CT) := if (Op.cmpValue (FP.dcmp (fl2d (FP.d2l l4)) l4) .l) = 0 then lt (FP.d2l l4) fun x2 => (pX13_tells_l88 g this p1  FUEL l3 l6 x2 h) else lt (fmul l4 4611686018427387904) fun x3 => (lt (l6 + (-1)) fun x4 => (k59 l3 x3 x4 h))
set_option maxRecDepth 10000 in
set_option maxHeartbeats 4000000 in
theorem pX13_tells_b59_ok {X : Cx} {G : Gx} {dk : Nat} {g : MT} {r0 : Int32} {h0 : CT} {this : Nat} {p1 : UInt64} {k59 : Int32 → UInt64 → Int32 → CT → Option ((Int32) × CT)} (Z : Zx X G cX13_tells RX13 9 dk (some .int) (some (.int r0)) g h0) (hK : 1 ≤ dk) (t0 : gT g this = 12) (hk59 : ∀ (l3 : Int32) (l4 : UInt64) (l6 : Int32) (h : CT), k59 l3 l4 l6 h = some (r0, h0) → J X g h 59 [(0, va_rf (some this)), (3, .int l3), (4, .double l4), (6, .int l6)] []) (l3 : Int32) (l4 : UInt64) (l6 : Int32) (h : CT) (hf : pX13_tells_b59 g this p1 k59 l3 l4 l6 h = some (r0, h0)) : J X g h 59 [(0, va_rf (some this)), (3, .int l3), (4, .double l4), (6, .int l6)] [] := by
  unfold pX13_tells_b59 at hf
  refine J_dload Z.1 2 dX13_tells_59 rfl ?_
  refine J_d2l Z.1 dX13_tells_61 ?_
  refine J_l2d Z.1 dX13_tells_62 ?_
  refine J_dload Z.1 2 dX13_tells_63 rfl ?_
  refine J_dcmp Z.1 dX13_tells_65 ?_
  refine J_if_eq Z.1 83 dX13_tells_66 (by decide) (fun c1 => ?_) (fun c1 => ?_)
  · rw [if_pos c1] at hf
    refine J_dload Z.1 2 dX13_tells_83 rfl ?_
    refine J_d2l Z.1 dX13_tells_85 ?_
    refine J_tl (fun x2 ex2 => ?_)
    replace hf := lt_i hf x2 ex2
    refine J_lstore Z.1 (lv2 := [(7, .long x2), (0, va_rf (some this)), (3, .int l3), (4, .double l4), (6, .int l6)]) dX13_tells_86 (zL Z (by decide)) rfl ?_
    refine J_lv [1, 2, 4, 0] rfl ?_
    exact pX13_tells_l88_ok Z hK t0  FUEL _ _ _ _ hf
  · rw [if_neg c1] at hf
    refine J_dload Z.1 2 dX13_tells_69 rfl ?_
    refine J_ldc2d Z.1 q_1773 (by decide +kernel) dX13_tells_71 ?_
    refine J_dmul Z.1 dX13_tells_74 ?_
    refine J_td (fun x3 ex3 => ?_)
    replace hf := lt_i hf x3 ex3
    refine J_dstore Z.1 (lv2 := [(4, .double x3), (0, va_rf (some this)), (3, .int l3), (6, .int l6)]) dX13_tells_75 (zL Z (by decide)) rfl ?_
    refine J_iinc Z.1 (v := (-1)) (lv2 := [(6, .int (l6 + (-1))), (4, .double x3), (0, va_rf (some this)), (3, .int l3)]) 3 dX13_tells_77 rfl (by decide) (zL Z (by decide)) rfl ?_
    obtain ⟨x4, ex4⟩ : ∃ z, z = (l6 + (-1)) := ⟨_, rfl⟩
    replace hf := lt_i hf x4 ex4
    rw [← ex4]
    refine J_goto Z.1 59 dX13_tells_80 (by decide) ?_
    refine J_lv [2, 3, 1, 0] rfl ?_
    exact hk59 _ _ _ _ hf
def pX13_tells_l59 (g : MT) (this : Nat) (p1 : UInt64) : Nat → Int32 → UInt64 → Int32 → CT → Option ((Int32) × CT)
  | 0, _, _, _, _ => none
  | n + 1, l3, l4, l6, h => pX13_tells_b59 g this p1 (pX13_tells_l59 g this p1 n) l3 l4 l6 h
theorem pX13_tells_l59_ok {X : Cx} {G : Gx} {dk : Nat} {g : MT} {r0 : Int32} {h0 : CT} {this : Nat} {p1 : UInt64} (Z : Zx X G cX13_tells RX13 9 dk (some .int) (some (.int r0)) g h0) (hK : 1 ≤ dk) (t0 : gT g this = 12) : ∀ (n : Nat) (l3 : Int32) (l4 : UInt64) (l6 : Int32) (h : CT), pX13_tells_l59 g this p1 n l3 l4 l6 h = some (r0, h0) → J X g h 59 [(0, va_rf (some this)), (3, .int l3), (4, .double l4), (6, .int l6)] [] := by
  intro n
  induction n with
  | zero => intro l3 l4 l6 h hf; cases hf
  | succ n ih => intro l3 l4 l6 h hf; exact pX13_tells_b59_ok Z hK t0 ih l3 l4 l6 h hf
def pX13_tells_b27 (g : MT) (this : Nat) (p1 : UInt64) (k27 : Int32 → UInt64 → Int32 → CT → Option ((Int32) × CT)) (l3 : Int32) (l4 : UInt64) (l6 : Int32) (h : CT) : Option ((Int32) × CT) := if 0 ≤ (Op.cmpValue (FP.dcmp l4 4845873199050653696) .l) then pX13_tells_b45 g this p1 k27 l3 l4 l6 h else if 0 < (Op.cmpValue (FP.dcmp l4 14069245235905429504) .g) then pX13_tells_l59 g this p1  FUEL l3 l4 l6 h else pX13_tells_b45 g this p1 k27 l3 l4 l6 h
set_option maxRecDepth 10000 in
set_option maxHeartbeats 4000000 in
theorem pX13_tells_b27_ok {X : Cx} {G : Gx} {dk : Nat} {g : MT} {r0 : Int32} {h0 : CT} {this : Nat} {p1 : UInt64} {k27 : Int32 → UInt64 → Int32 → CT → Option ((Int32) × CT)} (Z : Zx X G cX13_tells RX13 9 dk (some .int) (some (.int r0)) g h0) (hK : 1 ≤ dk) (t0 : gT g this = 12) (hk27 : ∀ (l3 : Int32) (l4 : UInt64) (l6 : Int32) (h : CT), k27 l3 l4 l6 h = some (r0, h0) → J X g h 27 [(0, va_rf (some this)), (3, .int l3), (4, .double l4), (6, .int l6)] []) (l3 : Int32) (l4 : UInt64) (l6 : Int32) (h : CT) (hf : pX13_tells_b27 g this p1 k27 l3 l4 l6 h = some (r0, h0)) : J X g h 27 [(0, va_rf (some this)), (3, .int l3), (4, .double l4), (6, .int l6)] [] := by
  unfold pX13_tells_b27 at hf
  refine J_dload Z.1 2 dX13_tells_27 rfl ?_
  refine J_ldc2d Z.1 q_1771 (by decide +kernel) dX13_tells_29 ?_
  refine J_dcmp Z.1 dX13_tells_32 ?_
  refine J_if_ge Z.1 45 dX13_tells_33 (by decide) (fun c1 => ?_) (fun c1 => ?_)
  · rw [if_pos c1] at hf
    exact pX13_tells_b45_ok Z hK t0 hk27 _ _ _ _ hf
  · rw [if_neg c1] at hf
    refine J_dload Z.1 2 dX13_tells_36 rfl ?_
    refine J_ldc2d Z.1 q_1772 (by decide +kernel) dX13_tells_38 ?_
    refine J_dcmp Z.1 dX13_tells_41 ?_
    refine J_if_gt Z.1 59 dX13_tells_42 (by decide) (fun c2 => ?_) (fun c2 => ?_)
    · rw [if_pos c2] at hf
      exact pX13_tells_l59_ok Z hK t0  FUEL _ _ _ _ hf
    · rw [if_neg c2] at hf
      exact pX13_tells_b45_ok Z hK t0 hk27 _ _ _ _ hf
def pX13_tells_l27 (g : MT) (this : Nat) (p1 : UInt64) : Nat → Int32 → UInt64 → Int32 → CT → Option ((Int32) × CT)
  | 0, _, _, _, _ => none
  | n + 1, l3, l4, l6, h => pX13_tells_b27 g this p1 (pX13_tells_l27 g this p1 n) l3 l4 l6 h
theorem pX13_tells_l27_ok {X : Cx} {G : Gx} {dk : Nat} {g : MT} {r0 : Int32} {h0 : CT} {this : Nat} {p1 : UInt64} (Z : Zx X G cX13_tells RX13 9 dk (some .int) (some (.int r0)) g h0) (hK : 1 ≤ dk) (t0 : gT g this = 12) : ∀ (n : Nat) (l3 : Int32) (l4 : UInt64) (l6 : Int32) (h : CT), pX13_tells_l27 g this p1 n l3 l4 l6 h = some (r0, h0) → J X g h 27 [(0, va_rf (some this)), (3, .int l3), (4, .double l4), (6, .int l6)] [] := by
  intro n
  induction n with
  | zero => intro l3 l4 l6 h hf; cases hf
  | succ n ih => intro l3 l4 l6 h hf; exact pX13_tells_b27_ok Z hK t0 ih l3 l4 l6 h hf
def pX13_tells (g : MT) (h : CT) (this : Nat) (p1 : UInt64) : Option ((Int32) × CT) := tg g this 12 (lt (pX13_kindOf p1) fun x1 => (lt (sL h this 2 0) fun h2 => (lt (sI h2 this 3 0) fun h3 => (if x1 ≤ 0 then pX13_tells_l27 g this p1  FUEL x1 p1 0 h3 else some (x1, h3)))))
set_option maxRecDepth 10000 in
set_option maxHeartbeats 4000000 in
theorem pX13_tells_ok (G : Gx) (dk : Nat) (hK : 1 ≤ dk) {g : MT} {h h0 : CT} {this : Nat} {p1 : UInt64} {r0 : Int32} (hf : pX13_tells g h this p1 = some (r0, h0)) : Ctr G dk yX13_tells cX13_tells 9 (some .int) [va_rf (some this), .double p1] g h (some (.int r0)) g h0 := by
  refine Ctr.ofZ (lv := [(0, va_rf (some this)), (1, .double p1)]) (by decide +kernel) (by simp [cat_i, cat_l, cat_d, cat_rf]) rfl fun X Z => ?_
  unfold pX13_tells at hf
  replace hf := tg_i hf
  obtain ⟨t0, hf⟩ := hf
  refine J_dload_n Z.1 1 dX13_tells_0 rfl rfl ?_
  refine J_callS (as := [.double p1]) (rest := []) (sy := [.int (pX13_kindOf p1)]) Z.1 dX13_tells_1 cw_X13_108 (pX13_kindOf_ok G (dk - 1) (by omega) g h p1) (zG Z) rfl (by decide) (zF Z (by omega)) (zO Z (by omega) (by decide)) (zM _) Z.2.1 Z.2.1 rfl rfl ?_
  refine J_ti (fun x1 ex1 => ?_)
  replace hf := lt_i hf x1 ex1
  refine J_istore_n Z.1 (lv2 := [(3, .int x1), (0, va_rf (some this)), (1, .double p1)]) dX13_tells_4 rfl (zL Z (by decide)) rfl ?_
  refine J_aload_n Z.1 1 dX13_tells_5 rfl rfl ?_
  refine J_lconst Z.1 (v := 0) (by decide) dX13_tells_6 ?_
  refine J_putL Z.1 dX13_tells_7 fl_X13_77 (fun q => by cases q) t0 rfl rfl (congrArg Value.long (hL_s _ _ _ _)) ?_
  refine J_th (fun h2 eh2 => ?_)
  replace hf := lt_i hf h2 eh2
  refine J_aload_n Z.1 1 dX13_tells_10 rfl rfl ?_
  refine J_iconst Z.1 (v := 0) (by decide) dX13_tells_11 ?_
  refine J_putI Z.1 dX13_tells_12 fl_X13_81 (fun q => by cases q) t0 rfl rfl (congrArg Value.int (hI_s _ _ _ _)) ?_
  refine J_th (fun h3 eh3 => ?_)
  replace hf := lt_i hf h3 eh3
  refine J_iload_n Z.1 0 dX13_tells_15 rfl rfl ?_
  refine J_if_le Z.1 21 dX13_tells_16 (by decide) (fun c4 => ?_) (fun c4 => ?_)
  · rw [if_pos c4] at hf
    refine J_dload_n Z.1 2 dX13_tells_21 rfl rfl ?_
    refine J_dstore Z.1 (lv2 := [(4, .double p1), (3, .int x1), (0, va_rf (some this)), (1, .double p1)]) dX13_tells_22 (zL Z (by decide)) rfl ?_
    refine J_iconst Z.1 (v := 0) (by decide) dX13_tells_24 ?_
    refine J_istore Z.1 (lv2 := [(6, .int 0), (4, .double p1), (3, .int x1), (0, va_rf (some this)), (1, .double p1)]) dX13_tells_25 (zL Z (by decide)) rfl ?_
    refine J_lv [3, 2, 1, 0] rfl ?_
    exact pX13_tells_l27_ok Z hK t0  FUEL _ _ _ _ hf
  · rw [if_neg c4] at hf
    refine J_iload_n Z.1 0 dX13_tells_19 rfl rfl ?_
    cases hf
    exact J_iret Z.1 Z.2.2.2.2.2 dX13_tells_20
theorem dX13_isNumber_0 : decode cX13_isNumber 0 = .ok (.lload_n 0, 1) := by decide +kernel
theorem dX13_isNumber_1 : decode cX13_isNumber 1 = .ok (.ldc2_w 120, 3) := by decide +kernel
theorem dX13_isNumber_4 : decode cX13_isNumber 4 = .ok (.ldc2_w 122, 3) := by decide +kernel
theorem dX13_isNumber_7 : decode cX13_isNumber 7 = .ok (.invokestatic 104, 3) := by decide +kernel
theorem dX13_isNumber_10 : decode cX13_isNumber 10 = .ok (.ifCond .eq 21, 3) := by decide +kernel
theorem dX13_isNumber_13 : decode cX13_isNumber 13 = .ok (.iload_n 2, 1) := by decide +kernel
theorem dX13_isNumber_14 : decode cX13_isNumber 14 = .ok (.i2l, 1) := by decide +kernel
theorem dX13_isNumber_15 : decode cX13_isNumber 15 = .ok (.ldc2_w 124, 3) := by decide +kernel
theorem dX13_isNumber_18 : decode cX13_isNumber 18 = .ok (.ldc2_w 126, 3) := by decide +kernel
theorem dX13_isNumber_21 : decode cX13_isNumber 21 = .ok (.invokestatic 104, 3) := by decide +kernel
theorem dX13_isNumber_24 : decode cX13_isNumber 24 = .ok (.ifCond .eq 7, 3) := by decide +kernel
theorem dX13_isNumber_27 : decode cX13_isNumber 27 = .ok (.iconst 1, 1) := by decide +kernel
theorem dX13_isNumber_28 : decode cX13_isNumber 28 = .ok (.goto 4, 3) := by decide +kernel
theorem dX13_isNumber_31 : decode cX13_isNumber 31 = .ok (.iconst 0, 1) := by decide +kernel
theorem dX13_isNumber_32 : decode cX13_isNumber 32 = .ok (.ireturn, 1) := by decide +kernel
def pX13_isNumber (p0 : Int64) (p2 : Int32) : Int32 := if (pX13_isIn p0 (-9007199254740992) 9007199254740992) = 0 then 0 else if (pX13_isIn (Int32.toInt64 p2) (-200) 200) = 0 then 0 else 1
set_option maxRecDepth 10000 in
set_option maxHeartbeats 4000000 in
theorem pX13_isNumber_ok (G : Gx) (dk : Nat) (hK : 1 ≤ dk) (g : MT) (h0 : CT) (p0 : Int64) (p2 : Int32) : Ctr G dk yX13_isNumber cX13_isNumber 3 (some .boolean) [.long p0, .int p2] g h0 (some (.int (pX13_isNumber p0 p2))) g h0 := by
  obtain ⟨r0, hf⟩ : ∃ z, pX13_isNumber p0 p2 = z := ⟨_, rfl⟩
  rw [hf]
  refine Ctr.ofZ (lv := [(0, .long p0), (2, .int p2)]) (by decide +kernel) (by simp [cat_i, cat_l, cat_d, cat_rf]) rfl fun X Z => ?_
  unfold pX13_isNumber at hf
  refine J_lload_n Z.1 0 dX13_isNumber_0 rfl rfl ?_
  refine J_ldc2 Z.1 q_1798 dX13_isNumber_1 ?_
  refine J_ldc2 Z.1 q_1799 dX13_isNumber_4 ?_
  refine J_callS (as := [.long p0, .long (-9007199254740992), .long 9007199254740992]) (rest := []) (sy := [.int (pX13_isIn p0 (-9007199254740992) 9007199254740992)]) Z.1 dX13_isNumber_7 cw_X13_104 (pX13_isIn_ok G (dk - 1) (by omega) g h0 p0 (-9007199254740992) 9007199254740992) (zG Z) rfl (by decide) (zF Z (by omega)) (zO Z (by omega) (by decide)) (zM _) Z.2.1 Z.2.1 rfl rfl ?_
  refine J_if_eq Z.1 31 dX13_isNumber_10 (by decide) (fun c1 => ?_) (fun c1 => ?_)
  · rw [if_pos c1] at hf
    refine J_iconst Z.1 (v := 0) (by decide) dX13_isNumber_31 ?_
    cases hf
    exact J_zret Z.1 Z.2.2.2.2.2 (z_n (Or.inl rfl)) dX13_isNumber_32
  · rw [if_neg c1] at hf
    refine J_iload_n Z.1 1 dX13_isNumber_13 rfl rfl ?_
    refine J_i2l Z.1 dX13_isNumber_14 ?_
    refine J_ldc2 Z.1 q_1800 dX13_isNumber_15 ?_
    refine J_ldc2 Z.1 q_1801 dX13_isNumber_18 ?_
    refine J_callS (as := [.long (Int32.toInt64 p2), .long (-200), .long 200]) (rest := []) (sy := [.int (pX13_isIn (Int32.toInt64 p2) (-200) 200)]) Z.1 dX13_isNumber_21 cw_X13_104 (pX13_isIn_ok G (dk - 1) (by omega) g h0 (Int32.toInt64 p2) (-200) 200) (zG Z) rfl (by decide) (zF Z (by omega)) (zO Z (by omega) (by decide)) (zM _) Z.2.1 Z.2.1 rfl rfl ?_
    refine J_if_eq Z.1 31 dX13_isNumber_24 (by decide) (fun c2 => ?_) (fun c2 => ?_)
    · rw [if_pos c2] at hf
      refine J_iconst Z.1 (v := 0) (by decide) dX13_isNumber_31 ?_
      cases hf
      exact J_zret Z.1 Z.2.2.2.2.2 (z_n (Or.inl rfl)) dX13_isNumber_32
    · rw [if_neg c2] at hf
      refine J_iconst Z.1 (v := 1) (by decide) dX13_isNumber_27 ?_
      refine J_goto Z.1 32 dX13_isNumber_28 (by decide) ?_
      cases hf
      exact J_zret Z.1 Z.2.2.2.2.2 (z_n (Or.inr rfl)) dX13_isNumber_32
theorem pX13_isNumber_z (p0 : Int64) (p2 : Int32) : is01 (pX13_isNumber p0 p2) := by
  unfold pX13_isNumber
  (try split) <;> (try split) <;> (try split) <;> (try split) <;> (try split) <;> (try split) <;> (try split) <;> (try split) <;> first | exact Or.inl rfl | exact Or.inr rfl | exact pX13_isIn_z _ _ _
theorem dX13_madeOf_0 : decode cX13_madeOf 0 = .ok (.lload_n 0, 1) := by decide +kernel
theorem dX13_madeOf_1 : decode cX13_madeOf 1 = .ok (.l2d, 1) := by decide +kernel
theorem dX13_madeOf_2 : decode cX13_madeOf 2 = .ok (.dstore_n 3, 1) := by decide +kernel
theorem dX13_madeOf_3 : decode cX13_madeOf 3 = .ok (.iconst 0, 1) := by decide +kernel
theorem dX13_madeOf_4 : decode cX13_madeOf 4 = .ok (.istore 5, 2) := by decide +kernel
theorem dX13_madeOf_6 : decode cX13_madeOf 6 = .ok (.iload 5, 2) := by decide +kernel
theorem dX13_madeOf_8 : decode cX13_madeOf 8 = .ok (.iload_n 2, 1) := by decide +kernel
theorem dX13_madeOf_9 : decode cX13_madeOf 9 = .ok (.if_icmp .ge 15, 3) := by decide +kernel
theorem dX13_madeOf_12 : decode cX13_madeOf 12 = .ok (.dload_n 3, 1) := by decide +kernel
theorem dX13_madeOf_13 : decode cX13_madeOf 13 = .ok (.ldc2_w 116, 3) := by decide +kernel
theorem dX13_madeOf_16 : decode cX13_madeOf 16 = .ok (.dmul, 1) := by decide +kernel
theorem dX13_madeOf_17 : decode cX13_madeOf 17 = .ok (.dstore_n 3, 1) := by decide +kernel
theorem dX13_madeOf_18 : decode cX13_madeOf 18 = .ok (.iinc 5 1, 3) := by decide +kernel
theorem dX13_madeOf_21 : decode cX13_madeOf 21 = .ok (.goto (-15), 3) := by decide +kernel
theorem dX13_madeOf_24 : decode cX13_madeOf 24 = .ok (.iconst 0, 1) := by decide +kernel
theorem dX13_madeOf_25 : decode cX13_madeOf 25 = .ok (.istore 5, 2) := by decide +kernel
theorem dX13_madeOf_27 : decode cX13_madeOf 27 = .ok (.iload 5, 2) := by decide +kernel
theorem dX13_madeOf_29 : decode cX13_madeOf 29 = .ok (.iload_n 2, 1) := by decide +kernel
theorem dX13_madeOf_30 : decode cX13_madeOf 30 = .ok (.if_icmp .le 15, 3) := by decide +kernel
theorem dX13_madeOf_33 : decode cX13_madeOf 33 = .ok (.dload_n 3, 1) := by decide +kernel
theorem dX13_madeOf_34 : decode cX13_madeOf 34 = .ok (.ldc2_w 116, 3) := by decide +kernel
theorem dX13_madeOf_37 : decode cX13_madeOf 37 = .ok (.ddiv, 1) := by decide +kernel
theorem dX13_madeOf_38 : decode cX13_madeOf 38 = .ok (.dstore_n 3, 1) := by decide +kernel
theorem dX13_madeOf_39 : decode cX13_madeOf 39 = .ok (.iinc 5 (-1), 3) := by decide +kernel
theorem dX13_madeOf_42 : decode cX13_madeOf 42 = .ok (.goto (-15), 3) := by decide +kernel
theorem dX13_madeOf_45 : decode cX13_madeOf 45 = .ok (.dload_n 3, 1) := by decide +kernel
theorem dX13_madeOf_46 : decode cX13_madeOf 46 = .ok (.dreturn, 1) := by decide +kernel
def pX13_madeOf_b27 (g : MT) (h : CT) (p0 : Int64) (p2 : Int32) (k27 : UInt64 → Int32 → Option UInt64) (l3 : UInt64) (l5 : Int32) : Option UInt64 := if l5 ≤ p2 then some l3 else lt (fdiv l3 4611686018427387904) fun x2 => (lt (l5 + (-1)) fun x3 => (k27 x2 x3))
set_option maxRecDepth 10000 in
set_option maxHeartbeats 4000000 in
theorem pX13_madeOf_b27_ok {X : Cx} {G : Gx} {dk : Nat} {g : MT} {r0 : UInt64} {h : CT} {p0 : Int64} {p2 : Int32} {k27 : UInt64 → Int32 → Option UInt64} (Z : Zx X G cX13_madeOf RX13 6 dk (some .double) (some (.double r0)) g h) (hK : 0 ≤ dk) (hk27 : ∀ (l3 : UInt64) (l5 : Int32), k27 l3 l5 = some r0 → J X g h 27 [(2, .int p2), (3, .double l3), (5, .int l5)] []) (l3 : UInt64) (l5 : Int32) (hf : pX13_madeOf_b27 g h p0 p2 k27 l3 l5 = some r0) : J X g h 27 [(2, .int p2), (3, .double l3), (5, .int l5)] [] := by
  unfold pX13_madeOf_b27 at hf
  refine J_iload Z.1 2 dX13_madeOf_27 rfl ?_
  refine J_iload_n Z.1 0 dX13_madeOf_29 rfl rfl ?_
  refine J_icmp_le Z.1 45 dX13_madeOf_30 (by decide) (fun c1 => ?_) (fun c1 => ?_)
  · rw [if_pos c1] at hf
    refine J_dload_n Z.1 1 dX13_madeOf_45 rfl rfl ?_
    cases hf
    exact J_dret Z.1 Z.2.2.2.2.2 dX13_madeOf_46
  · rw [if_neg c1] at hf
    refine J_dload_n Z.1 1 dX13_madeOf_33 rfl rfl ?_
    refine J_ldc2d Z.1 q_1773 (by decide +kernel) dX13_madeOf_34 ?_
    refine J_ddiv Z.1 dX13_madeOf_37 ?_
    refine J_td (fun x2 ex2 => ?_)
    replace hf := lt_i hf x2 ex2
    refine J_dstore_n Z.1 (lv2 := [(3, .double x2), (2, .int p2), (5, .int l5)]) dX13_madeOf_38 rfl (zL Z (by decide)) rfl ?_
    refine J_iinc Z.1 (v := (-1)) (lv2 := [(5, .int (l5 + (-1))), (3, .double x2), (2, .int p2)]) 2 dX13_madeOf_39 rfl (by decide) (zL Z (by decide)) rfl ?_
    obtain ⟨x3, ex3⟩ : ∃ z, z = (l5 + (-1)) := ⟨_, rfl⟩
    replace hf := lt_i hf x3 ex3
    rw [← ex3]
    refine J_goto Z.1 27 dX13_madeOf_42 (by decide) ?_
    refine J_lv [2, 1, 0] rfl ?_
    exact hk27 _ _ hf
def pX13_madeOf_l27 (g : MT) (h : CT) (p0 : Int64) (p2 : Int32) : Nat → UInt64 → Int32 → Option UInt64
  | 0, _, _ => none
  | n + 1, l3, l5 => pX13_madeOf_b27 g h p0 p2 (pX13_madeOf_l27 g h p0 p2 n) l3 l5
theorem pX13_madeOf_l27_ok {X : Cx} {G : Gx} {dk : Nat} {g : MT} {r0 : UInt64} {h : CT} {p0 : Int64} {p2 : Int32} (Z : Zx X G cX13_madeOf RX13 6 dk (some .double) (some (.double r0)) g h) (hK : 0 ≤ dk) : ∀ (n : Nat) (l3 : UInt64) (l5 : Int32), pX13_madeOf_l27 g h p0 p2 n l3 l5 = some r0 → J X g h 27 [(2, .int p2), (3, .double l3), (5, .int l5)] [] := by
  intro n
  induction n with
  | zero => intro l3 l5 hf; cases hf
  | succ n ih => intro l3 l5 hf; exact pX13_madeOf_b27_ok Z hK ih l3 l5 hf
def pX13_madeOf_b6 (g : MT) (h : CT) (p0 : Int64) (p2 : Int32) (k6 : UInt64 → Int32 → Option UInt64) (l3 : UInt64) (l5 : Int32) : Option UInt64 := if p2 ≤ l5 then pX13_madeOf_l27 g h p0 p2  FUEL l3 0 else lt (fmul l3 4611686018427387904) fun x2 => (lt (l5 + 1) fun x3 => (k6 x2 x3))
set_option maxRecDepth 10000 in
set_option maxHeartbeats 4000000 in
theorem pX13_madeOf_b6_ok {X : Cx} {G : Gx} {dk : Nat} {g : MT} {r0 : UInt64} {h : CT} {p0 : Int64} {p2 : Int32} {k6 : UInt64 → Int32 → Option UInt64} (Z : Zx X G cX13_madeOf RX13 6 dk (some .double) (some (.double r0)) g h) (hK : 0 ≤ dk) (hk6 : ∀ (l3 : UInt64) (l5 : Int32), k6 l3 l5 = some r0 → J X g h 6 [(2, .int p2), (3, .double l3), (5, .int l5)] []) (l3 : UInt64) (l5 : Int32) (hf : pX13_madeOf_b6 g h p0 p2 k6 l3 l5 = some r0) : J X g h 6 [(2, .int p2), (3, .double l3), (5, .int l5)] [] := by
  unfold pX13_madeOf_b6 at hf
  refine J_iload Z.1 2 dX13_madeOf_6 rfl ?_
  refine J_iload_n Z.1 0 dX13_madeOf_8 rfl rfl ?_
  refine J_icmp_ge Z.1 24 dX13_madeOf_9 (by decide) (fun c1 => ?_) (fun c1 => ?_)
  · rw [if_pos c1] at hf
    refine J_iconst Z.1 (v := 0) (by decide) dX13_madeOf_24 ?_
    refine J_istore Z.1 (lv2 := [(5, .int 0), (2, .int p2), (3, .double l3)]) dX13_madeOf_25 (zL Z (by decide)) rfl ?_
    refine J_lv [1, 2, 0] rfl ?_
    exact pX13_madeOf_l27_ok Z hK  FUEL _ _ hf
  · rw [if_neg c1] at hf
    refine J_dload_n Z.1 1 dX13_madeOf_12 rfl rfl ?_
    refine J_ldc2d Z.1 q_1773 (by decide +kernel) dX13_madeOf_13 ?_
    refine J_dmul Z.1 dX13_madeOf_16 ?_
    refine J_td (fun x2 ex2 => ?_)
    replace hf := lt_i hf x2 ex2
    refine J_dstore_n Z.1 (lv2 := [(3, .double x2), (2, .int p2), (5, .int l5)]) dX13_madeOf_17 rfl (zL Z (by decide)) rfl ?_
    refine J_iinc Z.1 (v := 1) (lv2 := [(5, .int (l5 + 1)), (3, .double x2), (2, .int p2)]) 2 dX13_madeOf_18 rfl (by decide) (zL Z (by decide)) rfl ?_
    obtain ⟨x3, ex3⟩ : ∃ z, z = (l5 + 1) := ⟨_, rfl⟩
    replace hf := lt_i hf x3 ex3
    rw [← ex3]
    refine J_goto Z.1 6 dX13_madeOf_21 (by decide) ?_
    refine J_lv [2, 1, 0] rfl ?_
    exact hk6 _ _ hf
def pX13_madeOf_l6 (g : MT) (h : CT) (p0 : Int64) (p2 : Int32) : Nat → UInt64 → Int32 → Option UInt64
  | 0, _, _ => none
  | n + 1, l3, l5 => pX13_madeOf_b6 g h p0 p2 (pX13_madeOf_l6 g h p0 p2 n) l3 l5
theorem pX13_madeOf_l6_ok {X : Cx} {G : Gx} {dk : Nat} {g : MT} {r0 : UInt64} {h : CT} {p0 : Int64} {p2 : Int32} (Z : Zx X G cX13_madeOf RX13 6 dk (some .double) (some (.double r0)) g h) (hK : 0 ≤ dk) : ∀ (n : Nat) (l3 : UInt64) (l5 : Int32), pX13_madeOf_l6 g h p0 p2 n l3 l5 = some r0 → J X g h 6 [(2, .int p2), (3, .double l3), (5, .int l5)] [] := by
  intro n
  induction n with
  | zero => intro l3 l5 hf; cases hf
  | succ n ih => intro l3 l5 hf; exact pX13_madeOf_b6_ok Z hK ih l3 l5 hf
def pX13_madeOf (g : MT) (h : CT) (p0 : Int64) (p2 : Int32) : Option UInt64 := lt (fl2d p0) fun x1 => (pX13_madeOf_l6 g h p0 p2  FUEL x1 0)
set_option maxRecDepth 10000 in
set_option maxHeartbeats 4000000 in
theorem pX13_madeOf_ok (G : Gx) (dk : Nat) (hK : 0 ≤ dk) {g : MT} {h : CT} {p0 : Int64} {p2 : Int32} {r0 : UInt64} (hf : pX13_madeOf g h p0 p2 = some r0) : Ctr G dk yX13_madeOf cX13_madeOf 6 (some .double) [.long p0, .int p2] g h (some (.double r0)) g h := by
  refine Ctr.ofZ (lv := [(0, .long p0), (2, .int p2)]) (by decide +kernel) (by simp [cat_i, cat_l, cat_d, cat_rf]) rfl fun X Z => ?_
  unfold pX13_madeOf at hf
  refine J_lload_n Z.1 0 dX13_madeOf_0 rfl rfl ?_
  refine J_l2d Z.1 dX13_madeOf_1 ?_
  refine J_td (fun x1 ex1 => ?_)
  replace hf := lt_i hf x1 ex1
  refine J_dstore_n Z.1 (lv2 := [(3, .double x1), (0, .long p0), (2, .int p2)]) dX13_madeOf_2 rfl (zL Z (by decide)) rfl ?_
  refine J_iconst Z.1 (v := 0) (by decide) dX13_madeOf_3 ?_
  refine J_istore Z.1 (lv2 := [(5, .int 0), (3, .double x1), (0, .long p0), (2, .int p2)]) dX13_madeOf_4 (zL Z (by decide)) rfl ?_
  refine J_lv [3, 1, 0] rfl ?_
  exact pX13_madeOf_l6_ok Z hK  FUEL _ _ hf
theorem dX13_strangeOf_0 : decode cX13_strangeOf 0 = .ok (.dconst 0, 1) := by decide +kernel
theorem dX13_strangeOf_1 : decode cX13_strangeOf 1 = .ok (.dstore_n 1, 1) := by decide +kernel
theorem dX13_strangeOf_2 : decode cX13_strangeOf 2 = .ok (.iload_n 0, 1) := by decide +kernel
theorem dX13_strangeOf_3 : decode cX13_strangeOf 3 = .ok (.iconst 1, 1) := by decide +kernel
theorem dX13_strangeOf_4 : decode cX13_strangeOf 4 = .ok (.if_icmp .ne 5, 3) := by decide +kernel
theorem dX13_strangeOf_7 : decode cX13_strangeOf 7 = .ok (.dload_n 1, 1) := by decide +kernel
theorem dX13_strangeOf_8 : decode cX13_strangeOf 8 = .ok (.dreturn, 1) := by decide +kernel
theorem dX13_strangeOf_9 : decode cX13_strangeOf 9 = .ok (.iload_n 0, 1) := by decide +kernel
theorem dX13_strangeOf_10 : decode cX13_strangeOf 10 = .ok (.iconst 2, 1) := by decide +kernel
theorem dX13_strangeOf_11 : decode cX13_strangeOf 11 = .ok (.if_icmp .ne 6, 3) := by decide +kernel
theorem dX13_strangeOf_14 : decode cX13_strangeOf 14 = .ok (.dload_n 1, 1) := by decide +kernel
theorem dX13_strangeOf_15 : decode cX13_strangeOf 15 = .ok (.dneg, 1) := by decide +kernel
theorem dX13_strangeOf_16 : decode cX13_strangeOf 16 = .ok (.dreturn, 1) := by decide +kernel
theorem dX13_strangeOf_17 : decode cX13_strangeOf 17 = .ok (.iload_n 0, 1) := by decide +kernel
theorem dX13_strangeOf_18 : decode cX13_strangeOf 18 = .ok (.iconst 3, 1) := by decide +kernel
theorem dX13_strangeOf_19 : decode cX13_strangeOf 19 = .ok (.if_icmp .ne 7, 3) := by decide +kernel
theorem dX13_strangeOf_22 : decode cX13_strangeOf 22 = .ok (.dconst 1, 1) := by decide +kernel
theorem dX13_strangeOf_23 : decode cX13_strangeOf 23 = .ok (.dload_n 1, 1) := by decide +kernel
theorem dX13_strangeOf_24 : decode cX13_strangeOf 24 = .ok (.ddiv, 1) := by decide +kernel
theorem dX13_strangeOf_25 : decode cX13_strangeOf 25 = .ok (.dreturn, 1) := by decide +kernel
theorem dX13_strangeOf_26 : decode cX13_strangeOf 26 = .ok (.iload_n 0, 1) := by decide +kernel
theorem dX13_strangeOf_27 : decode cX13_strangeOf 27 = .ok (.iconst 4, 1) := by decide +kernel
theorem dX13_strangeOf_28 : decode cX13_strangeOf 28 = .ok (.if_icmp .ne 11, 3) := by decide +kernel
theorem dX13_strangeOf_31 : decode cX13_strangeOf 31 = .ok (.ldc2_w 128, 3) := by decide +kernel
theorem dX13_strangeOf_34 : decode cX13_strangeOf 34 = .ok (.dload_n 1, 1) := by decide +kernel
theorem dX13_strangeOf_35 : decode cX13_strangeOf 35 = .ok (.ddiv, 1) := by decide +kernel
theorem dX13_strangeOf_36 : decode cX13_strangeOf 36 = .ok (.goto 6, 3) := by decide +kernel
theorem dX13_strangeOf_39 : decode cX13_strangeOf 39 = .ok (.dload_n 1, 1) := by decide +kernel
theorem dX13_strangeOf_40 : decode cX13_strangeOf 40 = .ok (.dload_n 1, 1) := by decide +kernel
theorem dX13_strangeOf_41 : decode cX13_strangeOf 41 = .ok (.ddiv, 1) := by decide +kernel
theorem dX13_strangeOf_42 : decode cX13_strangeOf 42 = .ok (.dreturn, 1) := by decide +kernel
def pX13_strangeOf (p0 : Int32) : UInt64 := if p0 = 1 then 0 else if p0 = 2 then (fneg 0) else if p0 = 3 then (fdiv 4607182418800017408 0) else if p0 = 4 then (fdiv 13830554455654793216 0) else (fdiv 0 0)
set_option maxRecDepth 10000 in
set_option maxHeartbeats 4000000 in
theorem pX13_strangeOf_ok (G : Gx) (dk : Nat) (hK : 0 ≤ dk) (g : MT) (h0 : CT) (p0 : Int32) : Ctr G dk yX13_strangeOf cX13_strangeOf 3 (some .double) [.int p0] g h0 (some (.double (pX13_strangeOf p0))) g h0 := by
  obtain ⟨r0, hf⟩ : ∃ z, pX13_strangeOf p0 = z := ⟨_, rfl⟩
  rw [hf]
  refine Ctr.ofZ (lv := [(0, .int p0)]) (by decide +kernel) (by simp [cat_i, cat_l, cat_d, cat_rf]) rfl fun X Z => ?_
  unfold pX13_strangeOf at hf
  refine J_dconst0 Z.1 dX13_strangeOf_0 ?_
  refine J_dstore_n Z.1 (lv2 := [(1, .double 0), (0, .int p0)]) dX13_strangeOf_1 rfl (zL Z (by decide)) rfl ?_
  refine J_iload_n Z.1 1 dX13_strangeOf_2 rfl rfl ?_
  refine J_iconst Z.1 (v := 1) (by decide) dX13_strangeOf_3 ?_
  refine J_icmp_ne Z.1 9 dX13_strangeOf_4 (by decide) (fun c1 => ?_) (fun c1 => ?_)
  · rw [if_neg c1] at hf
    refine J_iload_n Z.1 1 dX13_strangeOf_9 rfl rfl ?_
    refine J_iconst Z.1 (v := 2) (by decide) dX13_strangeOf_10 ?_
    refine J_icmp_ne Z.1 17 dX13_strangeOf_11 (by decide) (fun c2 => ?_) (fun c2 => ?_)
    · rw [if_neg c2] at hf
      refine J_iload_n Z.1 1 dX13_strangeOf_17 rfl rfl ?_
      refine J_iconst Z.1 (v := 3) (by decide) dX13_strangeOf_18 ?_
      refine J_icmp_ne Z.1 26 dX13_strangeOf_19 (by decide) (fun c3 => ?_) (fun c3 => ?_)
      · rw [if_neg c3] at hf
        refine J_iload_n Z.1 1 dX13_strangeOf_26 rfl rfl ?_
        refine J_iconst Z.1 (v := 4) (by decide) dX13_strangeOf_27 ?_
        refine J_icmp_ne Z.1 39 dX13_strangeOf_28 (by decide) (fun c4 => ?_) (fun c4 => ?_)
        · rw [if_neg c4] at hf
          refine J_dload_n Z.1 0 dX13_strangeOf_39 rfl rfl ?_
          refine J_dload_n Z.1 0 dX13_strangeOf_40 rfl rfl ?_
          refine J_ddiv Z.1 dX13_strangeOf_41 ?_
          cases hf
          exact J_dret Z.1 Z.2.2.2.2.2 dX13_strangeOf_42
        · rw [if_pos c4] at hf
          refine J_ldc2d Z.1 q_1828 (by decide +kernel) dX13_strangeOf_31 ?_
          refine J_dload_n Z.1 0 dX13_strangeOf_34 rfl rfl ?_
          refine J_ddiv Z.1 dX13_strangeOf_35 ?_
          refine J_goto Z.1 42 dX13_strangeOf_36 (by decide) ?_
          cases hf
          exact J_dret Z.1 Z.2.2.2.2.2 dX13_strangeOf_42
      · rw [if_pos c3] at hf
        refine J_dconst1 Z.1 dX13_strangeOf_22 ?_
        refine J_dload_n Z.1 0 dX13_strangeOf_23 rfl rfl ?_
        refine J_ddiv Z.1 dX13_strangeOf_24 ?_
        cases hf
        exact J_dret Z.1 Z.2.2.2.2.2 dX13_strangeOf_25
    · rw [if_pos c2] at hf
      refine J_dload_n Z.1 0 dX13_strangeOf_14 rfl rfl ?_
      refine J_dneg Z.1 dX13_strangeOf_15 ?_
      cases hf
      exact J_dret Z.1 Z.2.2.2.2.2 dX13_strangeOf_16
  · rw [if_pos c1] at hf
    refine J_dload_n Z.1 0 dX13_strangeOf_7 rfl rfl ?_
    cases hf
    exact J_dret Z.1 Z.2.2.2.2.2 dX13_strangeOf_8
theorem dX13_areAlike_0 : decode cX13_areAlike 0 = .ok (.dload_n 0, 1) := by decide +kernel
theorem dX13_areAlike_1 : decode cX13_areAlike 1 = .ok (.dload_n 2, 1) := by decide +kernel
theorem dX13_areAlike_2 : decode cX13_areAlike 2 = .ok (.dcmp .l, 1) := by decide +kernel
theorem dX13_areAlike_3 : decode cX13_areAlike 3 = .ok (.ifCond .eq 15, 3) := by decide +kernel
theorem dX13_areAlike_6 : decode cX13_areAlike 6 = .ok (.dload_n 0, 1) := by decide +kernel
theorem dX13_areAlike_7 : decode cX13_areAlike 7 = .ok (.dload_n 0, 1) := by decide +kernel
theorem dX13_areAlike_8 : decode cX13_areAlike 8 = .ok (.dcmp .l, 1) := by decide +kernel
theorem dX13_areAlike_9 : decode cX13_areAlike 9 = .ok (.ifCond .eq 13, 3) := by decide +kernel
theorem dX13_areAlike_12 : decode cX13_areAlike 12 = .ok (.dload_n 2, 1) := by decide +kernel
theorem dX13_areAlike_13 : decode cX13_areAlike 13 = .ok (.dload_n 2, 1) := by decide +kernel
theorem dX13_areAlike_14 : decode cX13_areAlike 14 = .ok (.dcmp .l, 1) := by decide +kernel
theorem dX13_areAlike_15 : decode cX13_areAlike 15 = .ok (.ifCond .eq 7, 3) := by decide +kernel
theorem dX13_areAlike_18 : decode cX13_areAlike 18 = .ok (.iconst 1, 1) := by decide +kernel
theorem dX13_areAlike_19 : decode cX13_areAlike 19 = .ok (.goto 4, 3) := by decide +kernel
theorem dX13_areAlike_22 : decode cX13_areAlike 22 = .ok (.iconst 0, 1) := by decide +kernel
theorem dX13_areAlike_23 : decode cX13_areAlike 23 = .ok (.ireturn, 1) := by decide +kernel
def pX13_areAlike_b18 (p0 : UInt64) (p2 : UInt64)  : Int32 := 1
set_option maxRecDepth 10000 in
set_option maxHeartbeats 4000000 in
theorem pX13_areAlike_b18_ok {X : Cx} {G : Gx} {dk : Nat} {g : MT} {r0 : Int32} {h0 : CT} {p0 : UInt64} {p2 : UInt64} (Z : Zx X G cX13_areAlike RX13 4 dk (some .boolean) (some (.int r0)) g h0) (hK : 0 ≤ dk)  (hf : pX13_areAlike_b18 p0 p2 = r0) : J X g h0 18 [] [] := by
  unfold pX13_areAlike_b18 at hf
  refine J_iconst Z.1 (v := 1) (by decide) dX13_areAlike_18 ?_
  refine J_goto Z.1 23 dX13_areAlike_19 (by decide) ?_
  cases hf
  exact J_zret Z.1 Z.2.2.2.2.2 (z_n (Or.inr rfl)) dX13_areAlike_23
def pX13_areAlike (p0 : UInt64) (p2 : UInt64) : Int32 := if (Op.cmpValue (FP.dcmp p0 p2) .l) = 0 then pX13_areAlike_b18 p0 p2   else if (Op.cmpValue (FP.dcmp p0 p0) .l) = 0 then 0 else if (Op.cmpValue (FP.dcmp p2 p2) .l) = 0 then 0 else pX13_areAlike_b18 p0 p2  
set_option maxRecDepth 10000 in
set_option maxHeartbeats 4000000 in
theorem pX13_areAlike_ok (G : Gx) (dk : Nat) (hK : 0 ≤ dk) (g : MT) (h0 : CT) (p0 : UInt64) (p2 : UInt64) : Ctr G dk yX13_areAlike cX13_areAlike 4 (some .boolean) [.double p0, .double p2] g h0 (some (.int (pX13_areAlike p0 p2))) g h0 := by
  obtain ⟨r0, hf⟩ : ∃ z, pX13_areAlike p0 p2 = z := ⟨_, rfl⟩
  rw [hf]
  refine Ctr.ofZ (lv := [(0, .double p0), (2, .double p2)]) (by decide +kernel) (by simp [cat_i, cat_l, cat_d, cat_rf]) rfl fun X Z => ?_
  unfold pX13_areAlike at hf
  refine J_dload_n Z.1 0 dX13_areAlike_0 rfl rfl ?_
  refine J_dload_n Z.1 1 dX13_areAlike_1 rfl rfl ?_
  refine J_dcmp Z.1 dX13_areAlike_2 ?_
  refine J_if_eq Z.1 18 dX13_areAlike_3 (by decide) (fun c1 => ?_) (fun c1 => ?_)
  · rw [if_pos c1] at hf
    refine J_lv [] rfl ?_
    exact pX13_areAlike_b18_ok Z hK   hf
  · rw [if_neg c1] at hf
    refine J_dload_n Z.1 0 dX13_areAlike_6 rfl rfl ?_
    refine J_dload_n Z.1 0 dX13_areAlike_7 rfl rfl ?_
    refine J_dcmp Z.1 dX13_areAlike_8 ?_
    refine J_if_eq Z.1 22 dX13_areAlike_9 (by decide) (fun c2 => ?_) (fun c2 => ?_)
    · rw [if_pos c2] at hf
      refine J_iconst Z.1 (v := 0) (by decide) dX13_areAlike_22 ?_
      cases hf
      exact J_zret Z.1 Z.2.2.2.2.2 (z_n (Or.inl rfl)) dX13_areAlike_23
    · rw [if_neg c2] at hf
      refine J_dload_n Z.1 1 dX13_areAlike_12 rfl rfl ?_
      refine J_dload_n Z.1 1 dX13_areAlike_13 rfl rfl ?_
      refine J_dcmp Z.1 dX13_areAlike_14 ?_
      refine J_if_eq Z.1 22 dX13_areAlike_15 (by decide) (fun c3 => ?_) (fun c3 => ?_)
      · rw [if_pos c3] at hf
        refine J_iconst Z.1 (v := 0) (by decide) dX13_areAlike_22 ?_
        cases hf
        exact J_zret Z.1 Z.2.2.2.2.2 (z_n (Or.inl rfl)) dX13_areAlike_23
      · rw [if_neg c3] at hf
        refine J_lv [] rfl ?_
        exact pX13_areAlike_b18_ok Z hK   hf
theorem pX13_areAlike_z (p0 : UInt64) (p2 : UInt64) : is01 (pX13_areAlike p0 p2) := by
  unfold pX13_areAlike
  simp only [pX13_areAlike_b18]
  (try split) <;> (try split) <;> (try split) <;> (try split) <;> (try split) <;> (try split) <;> (try split) <;> (try split) <;> first | exact Or.inl rfl | exact Or.inr rfl
theorem dX13_look2_0 : decode cX13_look2 0 = .ok (.iload_n 1, 1) := by decide +kernel
theorem dX13_look2_1 : decode cX13_look2 1 = .ok (.aload_n 0, 1) := by decide +kernel
theorem dX13_look2_2 : decode cX13_look2 2 = .ok (.getfield 130, 3) := by decide +kernel
theorem dX13_look2_5 : decode cX13_look2 5 = .ok (.if_icmp .ge 16, 3) := by decide +kernel
theorem dX13_look2_8 : decode cX13_look2 8 = .ok (.aload_n 0, 1) := by decide +kernel
theorem dX13_look2_9 : decode cX13_look2 9 = .ok (.getfield 20, 3) := by decide +kernel
theorem dX13_look2_12 : decode cX13_look2 12 = .ok (.iload_n 1, 1) := by decide +kernel
theorem dX13_look2_13 : decode cX13_look2 13 = .ok (.baload, 1) := by decide +kernel
theorem dX13_look2_14 : decode cX13_look2 14 = .ok (.sipush 255, 3) := by decide +kernel
theorem dX13_look2_17 : decode cX13_look2 17 = .ok (.iand, 1) := by decide +kernel
theorem dX13_look2_18 : decode cX13_look2 18 = .ok (.goto 4, 3) := by decide +kernel
theorem dX13_look2_21 : decode cX13_look2 21 = .ok (.iconst 0, 1) := by decide +kernel
theorem dX13_look2_22 : decode cX13_look2 22 = .ok (.ireturn, 1) := by decide +kernel
def pX13_look2 (g : MT) (h : CT) (this : Nat) (p1 : Int32) : Option Int32 := tg g this 12 (if (hI h this 9) ≤ p1 then some 0 else lt (hR h this 7) fun r2 => (nn r2 fun a2 => (tg g a2 23 (ix (gL g a2) p1 (some ((hI h a2 (Int32.toNatClampNeg p1)) &&& 255))))))
set_option maxRecDepth 10000 in
set_option maxHeartbeats 4000000 in
theorem pX13_look2_ok (G : Gx) (dk : Nat) (hK : 0 ≤ dk) {g : MT} {h : CT} {this : Nat} {p1 : Int32} {r0 : Int32} (hf : pX13_look2 g h this p1 = some r0) : Ctr G dk yX13_look2 cX13_look2 2 (some .int) [va_rf (some this), .int p1] g h (some (.int r0)) g h := by
  refine Ctr.ofZ (lv := [(0, va_rf (some this)), (1, .int p1)]) (by decide +kernel) (by simp [cat_i, cat_l, cat_d, cat_rf]) rfl fun X Z => ?_
  unfold pX13_look2 at hf
  replace hf := tg_i hf
  obtain ⟨t0, hf⟩ := hf
  refine J_iload_n Z.1 1 dX13_look2_0 rfl rfl ?_
  refine J_aload_n Z.1 0 dX13_look2_1 rfl rfl ?_
  refine J_get (v := .int (hI h this 9)) Z.1 dX13_look2_2 fl_X13_130 t0 rfl ?_
  refine J_icmp_ge Z.1 21 dX13_look2_5 (by decide) (fun c1 => ?_) (fun c1 => ?_)
  · rw [if_pos c1] at hf
    refine J_iconst Z.1 (v := 0) (by decide) dX13_look2_21 ?_
    cases hf
    exact J_iret Z.1 Z.2.2.2.2.2 dX13_look2_22
  · rw [if_neg c1] at hf
    refine J_aload_n Z.1 0 dX13_look2_8 rfl rfl ?_
    refine J_get (v := va_rf (hR h this 7)) Z.1 dX13_look2_9 fl_X13_20 t0 rfl ?_
    refine J_tr (fun r2 er2 => ?_)
    replace hf := lt_i hf r2 er2
    refine J_iload_n Z.1 1 dX13_look2_12 rfl rfl ?_
    replace hf := nn_i hf
    obtain ⟨a2, rfl, hf⟩ := hf
    replace hf := tg_i hf
    obtain ⟨t3, hf⟩ := hf
    replace hf := ix_i hf
    obtain ⟨i4, hf⟩ := hf
    refine J_baload Z.1 dX13_look2_13 t3 i4 ?_
    refine J_sipush Z.1 (v := 255) (by decide) dX13_look2_14 ?_
    refine J_iand Z.1 dX13_look2_17 ?_
    refine J_goto Z.1 22 dX13_look2_18 (by decide) ?_
    cases hf
    exact J_iret Z.1 Z.2.2.2.2.2 dX13_look2_22
theorem dX13_isLetter_0 : decode cX13_isLetter 0 = .ok (.iload_n 0, 1) := by decide +kernel
theorem dX13_isLetter_1 : decode cX13_isLetter 1 = .ok (.bipush 97, 2) := by decide +kernel
theorem dX13_isLetter_3 : decode cX13_isLetter 3 = .ok (.if_icmp .lt 13, 3) := by decide +kernel
theorem dX13_isLetter_6 : decode cX13_isLetter 6 = .ok (.iload_n 0, 1) := by decide +kernel
theorem dX13_isLetter_7 : decode cX13_isLetter 7 = .ok (.bipush 122, 2) := by decide +kernel
theorem dX13_isLetter_9 : decode cX13_isLetter 9 = .ok (.if_icmp .gt 7, 3) := by decide +kernel
theorem dX13_isLetter_12 : decode cX13_isLetter 12 = .ok (.iconst 1, 1) := by decide +kernel
theorem dX13_isLetter_13 : decode cX13_isLetter 13 = .ok (.goto 4, 3) := by decide +kernel
theorem dX13_isLetter_16 : decode cX13_isLetter 16 = .ok (.iconst 0, 1) := by decide +kernel
theorem dX13_isLetter_17 : decode cX13_isLetter 17 = .ok (.ireturn, 1) := by decide +kernel
def pX13_isLetter (p0 : Int32) : Int32 := if p0 < 97 then 0 else if 122 < p0 then 0 else 1
set_option maxRecDepth 10000 in
set_option maxHeartbeats 4000000 in
theorem pX13_isLetter_ok (G : Gx) (dk : Nat) (hK : 0 ≤ dk) (g : MT) (h0 : CT) (p0 : Int32) : Ctr G dk yX13_isLetter cX13_isLetter 1 (some .boolean) [.int p0] g h0 (some (.int (pX13_isLetter p0))) g h0 := by
  obtain ⟨r0, hf⟩ : ∃ z, pX13_isLetter p0 = z := ⟨_, rfl⟩
  rw [hf]
  refine Ctr.ofZ (lv := [(0, .int p0)]) (by decide +kernel) (by simp [cat_i, cat_l, cat_d, cat_rf]) rfl fun X Z => ?_
  unfold pX13_isLetter at hf
  refine J_iload_n Z.1 0 dX13_isLetter_0 rfl rfl ?_
  refine J_bipush Z.1 (v := 97) (by decide) dX13_isLetter_1 ?_
  refine J_icmp_lt Z.1 16 dX13_isLetter_3 (by decide) (fun c1 => ?_) (fun c1 => ?_)
  · rw [if_pos c1] at hf
    refine J_iconst Z.1 (v := 0) (by decide) dX13_isLetter_16 ?_
    cases hf
    exact J_zret Z.1 Z.2.2.2.2.2 (z_n (Or.inl rfl)) dX13_isLetter_17
  · rw [if_neg c1] at hf
    refine J_iload_n Z.1 0 dX13_isLetter_6 rfl rfl ?_
    refine J_bipush Z.1 (v := 122) (by decide) dX13_isLetter_7 ?_
    refine J_icmp_gt Z.1 16 dX13_isLetter_9 (by decide) (fun c2 => ?_) (fun c2 => ?_)
    · rw [if_pos c2] at hf
      refine J_iconst Z.1 (v := 0) (by decide) dX13_isLetter_16 ?_
      cases hf
      exact J_zret Z.1 Z.2.2.2.2.2 (z_n (Or.inl rfl)) dX13_isLetter_17
    · rw [if_neg c2] at hf
      refine J_iconst Z.1 (v := 1) (by decide) dX13_isLetter_12 ?_
      refine J_goto Z.1 17 dX13_isLetter_13 (by decide) ?_
      cases hf
      exact J_zret Z.1 Z.2.2.2.2.2 (z_n (Or.inr rfl)) dX13_isLetter_17
theorem pX13_isLetter_z (p0 : Int32) : is01 (pX13_isLetter p0) := by
  unfold pX13_isLetter
  (try split) <;> (try split) <;> (try split) <;> (try split) <;> (try split) <;> (try split) <;> (try split) <;> (try split) <;> first | exact Or.inl rfl | exact Or.inr rfl
theorem dX13_isDigit_0 : decode cX13_isDigit 0 = .ok (.iload_n 0, 1) := by decide +kernel
theorem dX13_isDigit_1 : decode cX13_isDigit 1 = .ok (.bipush 48, 2) := by decide +kernel
theorem dX13_isDigit_3 : decode cX13_isDigit 3 = .ok (.if_icmp .lt 13, 3) := by decide +kernel
theorem dX13_isDigit_6 : decode cX13_isDigit 6 = .ok (.iload_n 0, 1) := by decide +kernel
theorem dX13_isDigit_7 : decode cX13_isDigit 7 = .ok (.bipush 57, 2) := by decide +kernel
theorem dX13_isDigit_9 : decode cX13_isDigit 9 = .ok (.if_icmp .gt 7, 3) := by decide +kernel
theorem dX13_isDigit_12 : decode cX13_isDigit 12 = .ok (.iconst 1, 1) := by decide +kernel
theorem dX13_isDigit_13 : decode cX13_isDigit 13 = .ok (.goto 4, 3) := by decide +kernel
theorem dX13_isDigit_16 : decode cX13_isDigit 16 = .ok (.iconst 0, 1) := by decide +kernel
theorem dX13_isDigit_17 : decode cX13_isDigit 17 = .ok (.ireturn, 1) := by decide +kernel
def pX13_isDigit (p0 : Int32) : Int32 := if p0 < 48 then 0 else if 57 < p0 then 0 else 1
set_option maxRecDepth 10000 in
set_option maxHeartbeats 4000000 in
theorem pX13_isDigit_ok (G : Gx) (dk : Nat) (hK : 0 ≤ dk) (g : MT) (h0 : CT) (p0 : Int32) : Ctr G dk yX13_isDigit cX13_isDigit 1 (some .boolean) [.int p0] g h0 (some (.int (pX13_isDigit p0))) g h0 := by
  obtain ⟨r0, hf⟩ : ∃ z, pX13_isDigit p0 = z := ⟨_, rfl⟩
  rw [hf]
  refine Ctr.ofZ (lv := [(0, .int p0)]) (by decide +kernel) (by simp [cat_i, cat_l, cat_d, cat_rf]) rfl fun X Z => ?_
  unfold pX13_isDigit at hf
  refine J_iload_n Z.1 0 dX13_isDigit_0 rfl rfl ?_
  refine J_bipush Z.1 (v := 48) (by decide) dX13_isDigit_1 ?_
  refine J_icmp_lt Z.1 16 dX13_isDigit_3 (by decide) (fun c1 => ?_) (fun c1 => ?_)
  · rw [if_pos c1] at hf
    refine J_iconst Z.1 (v := 0) (by decide) dX13_isDigit_16 ?_
    cases hf
    exact J_zret Z.1 Z.2.2.2.2.2 (z_n (Or.inl rfl)) dX13_isDigit_17
  · rw [if_neg c1] at hf
    refine J_iload_n Z.1 0 dX13_isDigit_6 rfl rfl ?_
    refine J_bipush Z.1 (v := 57) (by decide) dX13_isDigit_7 ?_
    refine J_icmp_gt Z.1 16 dX13_isDigit_9 (by decide) (fun c2 => ?_) (fun c2 => ?_)
    · rw [if_pos c2] at hf
      refine J_iconst Z.1 (v := 0) (by decide) dX13_isDigit_16 ?_
      cases hf
      exact J_zret Z.1 Z.2.2.2.2.2 (z_n (Or.inl rfl)) dX13_isDigit_17
    · rw [if_neg c2] at hf
      refine J_iconst Z.1 (v := 1) (by decide) dX13_isDigit_12 ?_
      refine J_goto Z.1 17 dX13_isDigit_13 (by decide) ?_
      cases hf
      exact J_zret Z.1 Z.2.2.2.2.2 (z_n (Or.inr rfl)) dX13_isDigit_17
theorem pX13_isDigit_z (p0 : Int32) : is01 (pX13_isDigit p0) := by
  unfold pX13_isDigit
  (try split) <;> (try split) <;> (try split) <;> (try split) <;> (try split) <;> (try split) <;> (try split) <;> (try split) <;> first | exact Or.inl rfl | exact Or.inr rfl
theorem dX13_advance_0 : decode cX13_advance 0 = .ok (.aload_n 0, 1) := by decide +kernel
theorem dX13_advance_1 : decode cX13_advance 1 = .ok (.aload_n 0, 1) := by decide +kernel
theorem dX13_advance_2 : decode cX13_advance 2 = .ok (.getfield 133, 3) := by decide +kernel
theorem dX13_advance_5 : decode cX13_advance 5 = .ok (.putfield 136, 3) := by decide +kernel
theorem dX13_advance_8 : decode cX13_advance 8 = .ok (.aload_n 0, 1) := by decide +kernel
theorem dX13_advance_9 : decode cX13_advance 9 = .ok (.getfield 136, 3) := by decide +kernel
theorem dX13_advance_12 : decode cX13_advance 12 = .ok (.aload_n 0, 1) := by decide +kernel
theorem dX13_advance_13 : decode cX13_advance 13 = .ok (.getfield 130, 3) := by decide +kernel
theorem dX13_advance_16 : decode cX13_advance 16 = .ok (.if_icmp .ge 42, 3) := by decide +kernel
theorem dX13_advance_19 : decode cX13_advance 19 = .ok (.aload_n 0, 1) := by decide +kernel
theorem dX13_advance_20 : decode cX13_advance 20 = .ok (.aload_n 0, 1) := by decide +kernel
theorem dX13_advance_21 : decode cX13_advance 21 = .ok (.getfield 136, 3) := by decide +kernel
theorem dX13_advance_24 : decode cX13_advance 24 = .ok (.invokevirtual 139, 3) := by decide +kernel
theorem dX13_advance_27 : decode cX13_advance 27 = .ok (.bipush 10, 2) := by decide +kernel
theorem dX13_advance_29 : decode cX13_advance 29 = .ok (.if_icmp .eq 16, 3) := by decide +kernel
theorem dX13_advance_32 : decode cX13_advance 32 = .ok (.aload_n 0, 1) := by decide +kernel
theorem dX13_advance_33 : decode cX13_advance 33 = .ok (.aload_n 0, 1) := by decide +kernel
theorem dX13_advance_34 : decode cX13_advance 34 = .ok (.getfield 136, 3) := by decide +kernel
theorem dX13_advance_37 : decode cX13_advance 37 = .ok (.invokevirtual 139, 3) := by decide +kernel
theorem dX13_advance_40 : decode cX13_advance 40 = .ok (.bipush 32, 2) := by decide +kernel
theorem dX13_advance_42 : decode cX13_advance 42 = .ok (.if_icmp .ne 16, 3) := by decide +kernel
theorem dX13_advance_45 : decode cX13_advance 45 = .ok (.aload_n 0, 1) := by decide +kernel
theorem dX13_advance_46 : decode cX13_advance 46 = .ok (.dup, 1) := by decide +kernel
theorem dX13_advance_47 : decode cX13_advance 47 = .ok (.getfield 136, 3) := by decide +kernel
theorem dX13_advance_50 : decode cX13_advance 50 = .ok (.iconst 1, 1) := by decide +kernel
theorem dX13_advance_51 : decode cX13_advance 51 = .ok (.iadd, 1) := by decide +kernel
theorem dX13_advance_52 : decode cX13_advance 52 = .ok (.putfield 136, 3) := by decide +kernel
theorem dX13_advance_55 : decode cX13_advance 55 = .ok (.goto (-47), 3) := by decide +kernel
theorem dX13_advance_58 : decode cX13_advance 58 = .ok (.aload_n 0, 1) := by decide +kernel
theorem dX13_advance_59 : decode cX13_advance 59 = .ok (.aload_n 0, 1) := by decide +kernel
theorem dX13_advance_60 : decode cX13_advance 60 = .ok (.getfield 136, 3) := by decide +kernel
theorem dX13_advance_63 : decode cX13_advance 63 = .ok (.putfield 133, 3) := by decide +kernel
theorem dX13_advance_66 : decode cX13_advance 66 = .ok (.aload_n 0, 1) := by decide +kernel
theorem dX13_advance_67 : decode cX13_advance 67 = .ok (.getfield 136, 3) := by decide +kernel
theorem dX13_advance_70 : decode cX13_advance 70 = .ok (.aload_n 0, 1) := by decide +kernel
theorem dX13_advance_71 : decode cX13_advance 71 = .ok (.getfield 130, 3) := by decide +kernel
theorem dX13_advance_74 : decode cX13_advance 74 = .ok (.if_icmp .lt 9, 3) := by decide +kernel
theorem dX13_advance_77 : decode cX13_advance 77 = .ok (.aload_n 0, 1) := by decide +kernel
theorem dX13_advance_78 : decode cX13_advance 78 = .ok (.iconst 0, 1) := by decide +kernel
theorem dX13_advance_79 : decode cX13_advance 79 = .ok (.putfield 142, 3) := by decide +kernel
theorem dX13_advance_82 : decode cX13_advance 82 = .ok (.return_, 1) := by decide +kernel
theorem dX13_advance_83 : decode cX13_advance 83 = .ok (.aload_n 0, 1) := by decide +kernel
theorem dX13_advance_84 : decode cX13_advance 84 = .ok (.aload_n 0, 1) := by decide +kernel
theorem dX13_advance_85 : decode cX13_advance 85 = .ok (.getfield 136, 3) := by decide +kernel
theorem dX13_advance_88 : decode cX13_advance 88 = .ok (.invokevirtual 139, 3) := by decide +kernel
theorem dX13_advance_91 : decode cX13_advance 91 = .ok (.istore_n 1, 1) := by decide +kernel
theorem dX13_advance_92 : decode cX13_advance 92 = .ok (.iload_n 1, 1) := by decide +kernel
theorem dX13_advance_93 : decode cX13_advance 93 = .ok (.invokestatic 145, 3) := by decide +kernel
theorem dX13_advance_96 : decode cX13_advance 96 = .ok (.ifCond .eq 86, 3) := by decide +kernel
theorem dX13_advance_99 : decode cX13_advance 99 = .ok (.aload_n 0, 1) := by decide +kernel
theorem dX13_advance_100 : decode cX13_advance 100 = .ok (.iconst 1, 1) := by decide +kernel
theorem dX13_advance_101 : decode cX13_advance 101 = .ok (.putfield 142, 3) := by decide +kernel
theorem dX13_advance_104 : decode cX13_advance 104 = .ok (.aload_n 0, 1) := by decide +kernel
theorem dX13_advance_105 : decode cX13_advance 105 = .ok (.lconst 0, 1) := by decide +kernel
theorem dX13_advance_106 : decode cX13_advance 106 = .ok (.putfield 148, 3) := by decide +kernel
theorem dX13_advance_109 : decode cX13_advance 109 = .ok (.aload_n 0, 1) := by decide +kernel
theorem dX13_advance_110 : decode cX13_advance 110 = .ok (.aload_n 0, 1) := by decide +kernel
theorem dX13_advance_111 : decode cX13_advance 111 = .ok (.getfield 133, 3) := by decide +kernel
theorem dX13_advance_114 : decode cX13_advance 114 = .ok (.invokevirtual 139, 3) := by decide +kernel
theorem dX13_advance_117 : decode cX13_advance 117 = .ok (.invokestatic 145, 3) := by decide +kernel
theorem dX13_advance_120 : decode cX13_advance 120 = .ok (.ifCond .eq 187, 3) := by decide +kernel
theorem dX13_advance_123 : decode cX13_advance 123 = .ok (.aload_n 0, 1) := by decide +kernel
theorem dX13_advance_124 : decode cX13_advance 124 = .ok (.aload_n 0, 1) := by decide +kernel
theorem dX13_advance_125 : decode cX13_advance 125 = .ok (.getfield 133, 3) := by decide +kernel
theorem dX13_advance_128 : decode cX13_advance 128 = .ok (.aload_n 0, 1) := by decide +kernel
theorem dX13_advance_129 : decode cX13_advance 129 = .ok (.getfield 136, 3) := by decide +kernel
theorem dX13_advance_132 : decode cX13_advance 132 = .ok (.isub, 1) := by decide +kernel
theorem dX13_advance_133 : decode cX13_advance 133 = .ok (.bipush 8, 2) := by decide +kernel
theorem dX13_advance_135 : decode cX13_advance 135 = .ok (.if_icmp .ge 28, 3) := by decide +kernel
theorem dX13_advance_138 : decode cX13_advance 138 = .ok (.aload_n 0, 1) := by decide +kernel
theorem dX13_advance_139 : decode cX13_advance 139 = .ok (.getfield 148, 3) := by decide +kernel
theorem dX13_advance_142 : decode cX13_advance 142 = .ok (.ldc2_w 151, 3) := by decide +kernel
theorem dX13_advance_145 : decode cX13_advance 145 = .ok (.lmul, 1) := by decide +kernel
theorem dX13_advance_146 : decode cX13_advance 146 = .ok (.aload_n 0, 1) := by decide +kernel
theorem dX13_advance_147 : decode cX13_advance 147 = .ok (.aload_n 0, 1) := by decide +kernel
theorem dX13_advance_148 : decode cX13_advance 148 = .ok (.getfield 133, 3) := by decide +kernel
theorem dX13_advance_151 : decode cX13_advance 151 = .ok (.invokevirtual 139, 3) := by decide +kernel
theorem dX13_advance_154 : decode cX13_advance 154 = .ok (.i2l, 1) := by decide +kernel
theorem dX13_advance_155 : decode cX13_advance 155 = .ok (.ladd, 1) := by decide +kernel
theorem dX13_advance_156 : decode cX13_advance 156 = .ok (.ldc2_w 153, 3) := by decide +kernel
theorem dX13_advance_159 : decode cX13_advance 159 = .ok (.lsub, 1) := by decide +kernel
theorem dX13_advance_160 : decode cX13_advance 160 = .ok (.goto 6, 3) := by decide +kernel
theorem dX13_advance_163 : decode cX13_advance 163 = .ok (.ldc2_w 100, 3) := by decide +kernel
theorem dX13_advance_166 : decode cX13_advance 166 = .ok (.putfield 148, 3) := by decide +kernel
theorem dX13_advance_169 : decode cX13_advance 169 = .ok (.aload_n 0, 1) := by decide +kernel
theorem dX13_advance_170 : decode cX13_advance 170 = .ok (.dup, 1) := by decide +kernel
theorem dX13_advance_171 : decode cX13_advance 171 = .ok (.getfield 133, 3) := by decide +kernel
theorem dX13_advance_174 : decode cX13_advance 174 = .ok (.iconst 1, 1) := by decide +kernel
theorem dX13_advance_175 : decode cX13_advance 175 = .ok (.iadd, 1) := by decide +kernel
theorem dX13_advance_176 : decode cX13_advance 176 = .ok (.putfield 133, 3) := by decide +kernel
theorem dX13_advance_179 : decode cX13_advance 179 = .ok (.goto (-70), 3) := by decide +kernel
theorem dX13_advance_182 : decode cX13_advance 182 = .ok (.iload_n 1, 1) := by decide +kernel
theorem dX13_advance_183 : decode cX13_advance 183 = .ok (.invokestatic 155, 3) := by decide +kernel
theorem dX13_advance_186 : decode cX13_advance 186 = .ok (.ifCond .eq 96, 3) := by decide +kernel
theorem dX13_advance_189 : decode cX13_advance 189 = .ok (.aload_n 0, 1) := by decide +kernel
theorem dX13_advance_190 : decode cX13_advance 190 = .ok (.iconst 0, 1) := by decide +kernel
theorem dX13_advance_191 : decode cX13_advance 191 = .ok (.putfield 158, 3) := by decide +kernel
theorem dX13_advance_194 : decode cX13_advance 194 = .ok (.aload_n 0, 1) := by decide +kernel
theorem dX13_advance_195 : decode cX13_advance 195 = .ok (.aload_n 0, 1) := by decide +kernel
theorem dX13_advance_196 : decode cX13_advance 196 = .ok (.getfield 133, 3) := by decide +kernel
theorem dX13_advance_199 : decode cX13_advance 199 = .ok (.invokevirtual 139, 3) := by decide +kernel
theorem dX13_advance_202 : decode cX13_advance 202 = .ok (.invokestatic 155, 3) := by decide +kernel
theorem dX13_advance_205 : decode cX13_advance 205 = .ok (.ifCond .eq 52, 3) := by decide +kernel
theorem dX13_advance_208 : decode cX13_advance 208 = .ok (.aload_n 0, 1) := by decide +kernel
theorem dX13_advance_209 : decode cX13_advance 209 = .ok (.getfield 133, 3) := by decide +kernel
theorem dX13_advance_212 : decode cX13_advance 212 = .ok (.aload_n 0, 1) := by decide +kernel
theorem dX13_advance_213 : decode cX13_advance 213 = .ok (.getfield 136, 3) := by decide +kernel
theorem dX13_advance_216 : decode cX13_advance 216 = .ok (.isub, 1) := by decide +kernel
theorem dX13_advance_217 : decode cX13_advance 217 = .ok (.iconst 4, 1) := by decide +kernel
theorem dX13_advance_218 : decode cX13_advance 218 = .ok (.if_icmp .ge 26, 3) := by decide +kernel
theorem dX13_advance_221 : decode cX13_advance 221 = .ok (.aload_n 0, 1) := by decide +kernel
theorem dX13_advance_222 : decode cX13_advance 222 = .ok (.bipush 10, 2) := by decide +kernel
theorem dX13_advance_224 : decode cX13_advance 224 = .ok (.aload_n 0, 1) := by decide +kernel
theorem dX13_advance_225 : decode cX13_advance 225 = .ok (.getfield 158, 3) := by decide +kernel
theorem dX13_advance_228 : decode cX13_advance 228 = .ok (.imul, 1) := by decide +kernel
theorem dX13_advance_229 : decode cX13_advance 229 = .ok (.aload_n 0, 1) := by decide +kernel
theorem dX13_advance_230 : decode cX13_advance 230 = .ok (.aload_n 0, 1) := by decide +kernel
theorem dX13_advance_231 : decode cX13_advance 231 = .ok (.getfield 133, 3) := by decide +kernel
theorem dX13_advance_234 : decode cX13_advance 234 = .ok (.invokevirtual 139, 3) := by decide +kernel
theorem dX13_advance_237 : decode cX13_advance 237 = .ok (.iadd, 1) := by decide +kernel
theorem dX13_advance_238 : decode cX13_advance 238 = .ok (.bipush 48, 2) := by decide +kernel
theorem dX13_advance_240 : decode cX13_advance 240 = .ok (.isub, 1) := by decide +kernel
theorem dX13_advance_241 : decode cX13_advance 241 = .ok (.putfield 158, 3) := by decide +kernel
theorem dX13_advance_244 : decode cX13_advance 244 = .ok (.aload_n 0, 1) := by decide +kernel
theorem dX13_advance_245 : decode cX13_advance 245 = .ok (.dup, 1) := by decide +kernel
theorem dX13_advance_246 : decode cX13_advance 246 = .ok (.getfield 133, 3) := by decide +kernel
theorem dX13_advance_249 : decode cX13_advance 249 = .ok (.iconst 1, 1) := by decide +kernel
theorem dX13_advance_250 : decode cX13_advance 250 = .ok (.iadd, 1) := by decide +kernel
theorem dX13_advance_251 : decode cX13_advance 251 = .ok (.putfield 133, 3) := by decide +kernel
theorem dX13_advance_254 : decode cX13_advance 254 = .ok (.goto (-60), 3) := by decide +kernel
theorem dX13_advance_257 : decode cX13_advance 257 = .ok (.aload_n 0, 1) := by decide +kernel
theorem dX13_advance_258 : decode cX13_advance 258 = .ok (.aload_n 0, 1) := by decide +kernel
theorem dX13_advance_259 : decode cX13_advance 259 = .ok (.getfield 133, 3) := by decide +kernel
theorem dX13_advance_262 : decode cX13_advance 262 = .ok (.aload_n 0, 1) := by decide +kernel
theorem dX13_advance_263 : decode cX13_advance 263 = .ok (.getfield 136, 3) := by decide +kernel
theorem dX13_advance_266 : decode cX13_advance 266 = .ok (.isub, 1) := by decide +kernel
theorem dX13_advance_267 : decode cX13_advance 267 = .ok (.iconst 4, 1) := by decide +kernel
theorem dX13_advance_268 : decode cX13_advance 268 = .ok (.if_icmp .le 7, 3) := by decide +kernel
theorem dX13_advance_271 : decode cX13_advance 271 = .ok (.iconst 4, 1) := by decide +kernel
theorem dX13_advance_272 : decode cX13_advance 272 = .ok (.goto 4, 3) := by decide +kernel
theorem dX13_advance_275 : decode cX13_advance 275 = .ok (.iconst 2, 1) := by decide +kernel
theorem dX13_advance_276 : decode cX13_advance 276 = .ok (.putfield 142, 3) := by decide +kernel
theorem dX13_advance_279 : decode cX13_advance 279 = .ok (.goto 28, 3) := by decide +kernel
theorem dX13_advance_282 : decode cX13_advance 282 = .ok (.aload_n 0, 1) := by decide +kernel
theorem dX13_advance_283 : decode cX13_advance 283 = .ok (.aload_n 0, 1) := by decide +kernel
theorem dX13_advance_284 : decode cX13_advance 284 = .ok (.getfield 136, 3) := by decide +kernel
theorem dX13_advance_287 : decode cX13_advance 287 = .ok (.iconst 1, 1) := by decide +kernel
theorem dX13_advance_288 : decode cX13_advance 288 = .ok (.iadd, 1) := by decide +kernel
theorem dX13_advance_289 : decode cX13_advance 289 = .ok (.putfield 133, 3) := by decide +kernel
theorem dX13_advance_292 : decode cX13_advance 292 = .ok (.aload_n 0, 1) := by decide +kernel
theorem dX13_advance_293 : decode cX13_advance 293 = .ok (.iload_n 1, 1) := by decide +kernel
theorem dX13_advance_294 : decode cX13_advance 294 = .ok (.bipush 59, 2) := by decide +kernel
theorem dX13_advance_296 : decode cX13_advance 296 = .ok (.if_icmp .ne 7, 3) := by decide +kernel
theorem dX13_advance_299 : decode cX13_advance 299 = .ok (.iconst 3, 1) := by decide +kernel
theorem dX13_advance_300 : decode cX13_advance 300 = .ok (.goto 4, 3) := by decide +kernel
theorem dX13_advance_303 : decode cX13_advance 303 = .ok (.iconst 4, 1) := by decide +kernel
theorem dX13_advance_304 : decode cX13_advance 304 = .ok (.putfield 142, 3) := by decide +kernel
theorem dX13_advance_307 : decode cX13_advance 307 = .ok (.return_, 1) := by decide +kernel
def pX13_advance_b304 (g : MT) (this : Nat) (s0 : Nat) (s1 : Int32) (h : CT) : Option CT := tg g s0 12 (lt (sI h s0 14 s1) fun h2 => (some h2))
set_option maxRecDepth 10000 in
set_option maxHeartbeats 4000000 in
theorem pX13_advance_b304_ok {X : Cx} {G : Gx} {dk : Nat} {g : MT} {h0 : CT} {this : Nat} (Z : Zx X G cX13_advance RX13 2 dk none none g h0) (hK : 1 ≤ dk) (t0 : gT g this = 12) (s0 : Nat) (s1 : Int32) (h : CT) (hf : pX13_advance_b304 g this s0 s1 h = some h0) : J X g h 304 [] [.int s1, va_rf (some s0)] := by
  unfold pX13_advance_b304 at hf
  replace hf := tg_i hf
  obtain ⟨t1, hf⟩ := hf
  refine J_putI Z.1 dX13_advance_304 fl_X13_142 (fun q => by cases q) t1 rfl rfl (congrArg Value.int (hI_s _ _ _ _)) ?_
  refine J_th (fun h2 eh2 => ?_)
  replace hf := lt_i hf h2 eh2
  cases hf
  exact J_vret Z.1 Z.2.2.2.2.2 dX13_advance_307
def pX13_advance_b276 (g : MT) (this : Nat) (s0 : Nat) (s1 : Int32) (h : CT) : Option CT := tg g s0 12 (lt (sI h s0 14 s1) fun h2 => (some h2))
set_option maxRecDepth 10000 in
set_option maxHeartbeats 4000000 in
theorem pX13_advance_b276_ok {X : Cx} {G : Gx} {dk : Nat} {g : MT} {h0 : CT} {this : Nat} (Z : Zx X G cX13_advance RX13 2 dk none none g h0) (hK : 1 ≤ dk) (t0 : gT g this = 12) (s0 : Nat) (s1 : Int32) (h : CT) (hf : pX13_advance_b276 g this s0 s1 h = some h0) : J X g h 276 [] [.int s1, va_rf (some s0)] := by
  unfold pX13_advance_b276 at hf
  replace hf := tg_i hf
  obtain ⟨t1, hf⟩ := hf
  refine J_putI Z.1 dX13_advance_276 fl_X13_142 (fun q => by cases q) t1 rfl rfl (congrArg Value.int (hI_s _ _ _ _)) ?_
  refine J_th (fun h2 eh2 => ?_)
  replace hf := lt_i hf h2 eh2
  refine J_goto Z.1 307 dX13_advance_279 (by decide) ?_
  cases hf
  exact J_vret Z.1 Z.2.2.2.2.2 dX13_advance_307
def pX13_advance_b244 (g : MT) (this : Nat) (k194 : CT → Option CT) (h : CT) : Option CT := lt (sI h this 16 ((hI h this 16) + 1)) fun h1 => (k194 h1)
set_option maxRecDepth 10000 in
set_option maxHeartbeats 4000000 in
theorem pX13_advance_b244_ok {X : Cx} {G : Gx} {dk : Nat} {g : MT} {h0 : CT} {this : Nat} {k194 : CT → Option CT} (Z : Zx X G cX13_advance RX13 2 dk none none g h0) (hK : 1 ≤ dk) (t0 : gT g this = 12) (hk194 : ∀ (h : CT), k194 h = some h0 → J X g h 194 [(0, va_rf (some this))] []) (h : CT) (hf : pX13_advance_b244 g this k194 h = some h0) : J X g h 244 [(0, va_rf (some this))] [] := by
  unfold pX13_advance_b244 at hf
  refine J_aload_n Z.1 0 dX13_advance_244 rfl rfl ?_
  refine J_dup Z.1 dX13_advance_245 rfl ?_
  refine J_get (v := .int (hI h this 16)) Z.1 dX13_advance_246 fl_X13_133 t0 rfl ?_
  refine J_iconst Z.1 (v := 1) (by decide) dX13_advance_249 ?_
  refine J_iadd Z.1 dX13_advance_250 ?_
  refine J_putI Z.1 dX13_advance_251 fl_X13_133 (fun q => by cases q) t0 rfl rfl (congrArg Value.int (hI_s _ _ _ _)) ?_
  refine J_th (fun h1 eh1 => ?_)
  replace hf := lt_i hf h1 eh1
  refine J_goto Z.1 194 dX13_advance_254 (by decide) ?_
  exact hk194 _ hf
def pX13_advance_b194 (g : MT) (this : Nat) (k194 : CT → Option CT) (h : CT) : Option CT := bd (pX13_look2 g h this (hI h this 16)) fun x1 => (if (pX13_isDigit x1) = 0 then if ((hI h this 16) - (hI h this 15)) ≤ 4 then pX13_advance_b276 g this  this 2 h else pX13_advance_b276 g this  this 4 h else if 4 ≤ ((hI h this 16) - (hI h this 15)) then pX13_advance_b244 g this k194 h else bd (pX13_look2 g h this (hI h this 16)) fun x6 => (lt (sI h this 17 (((10 * (hI h this 17)) + x6) - 48)) fun h8 => (pX13_advance_b244 g this k194 h8)))
set_option maxRecDepth 10000 in
set_option maxHeartbeats 4000000 in
theorem pX13_advance_b194_ok {X : Cx} {G : Gx} {dk : Nat} {g : MT} {h0 : CT} {this : Nat} {k194 : CT → Option CT} (Z : Zx X G cX13_advance RX13 2 dk none none g h0) (hK : 1 ≤ dk) (t0 : gT g this = 12) (hk194 : ∀ (h : CT), k194 h = some h0 → J X g h 194 [(0, va_rf (some this))] []) (h : CT) (hf : pX13_advance_b194 g this k194 h = some h0) : J X g h 194 [(0, va_rf (some this))] [] := by
  unfold pX13_advance_b194 at hf
  refine J_aload_n Z.1 0 dX13_advance_194 rfl rfl ?_
  refine J_aload_n Z.1 0 dX13_advance_195 rfl rfl ?_
  refine J_get (v := .int (hI h this 16)) Z.1 dX13_advance_196 fl_X13_133 t0 rfl ?_
  replace hf := bd_i hf
  obtain ⟨x1, q2, hf⟩ := hf
  refine J_callV (ci := 11) (as := [.int (hI h this 16)]) (rest := []) (sy := [.int x1]) Z.1 dX13_advance_199 cw_X13_139 (pX13_look2_ok G (dk - 1) (by omega) q2) rfl rfl t0 (zG Z) rfl (by decide) (zF Z (by omega)) (zO Z (by omega) (by decide)) (zM _) Z.2.1 Z.2.1 rfl rfl ?_
  refine J_callS (as := [.int x1]) (rest := []) (sy := [.int (pX13_isDigit x1)]) Z.1 dX13_advance_202 cw_X13_155 (pX13_isDigit_ok G (dk - 1) (by omega) g h x1) (zG Z) rfl (by decide) (zF Z (by omega)) (zO Z (by omega) (by decide)) (zM _) Z.2.1 Z.2.1 rfl rfl ?_
  refine J_if_eq Z.1 257 dX13_advance_205 (by decide) (fun c3 => ?_) (fun c3 => ?_)
  · rw [if_pos c3] at hf
    refine J_aload_n Z.1 0 dX13_advance_257 rfl rfl ?_
    refine J_aload_n Z.1 0 dX13_advance_258 rfl rfl ?_
    refine J_get (v := .int (hI h this 16)) Z.1 dX13_advance_259 fl_X13_133 t0 rfl ?_
    refine J_aload_n Z.1 0 dX13_advance_262 rfl rfl ?_
    refine J_get (v := .int (hI h this 15)) Z.1 dX13_advance_263 fl_X13_136 t0 rfl ?_
    refine J_isub Z.1 dX13_advance_266 ?_
    refine J_iconst Z.1 (v := 4) (by decide) dX13_advance_267 ?_
    refine J_icmp_le Z.1 275 dX13_advance_268 (by decide) (fun c4 => ?_) (fun c4 => ?_)
    · rw [if_pos c4] at hf
      refine J_iconst Z.1 (v := 2) (by decide) dX13_advance_275 ?_
      refine J_lv [] rfl ?_
      exact pX13_advance_b276_ok Z hK t0  _ _ _ hf
    · rw [if_neg c4] at hf
      refine J_iconst Z.1 (v := 4) (by decide) dX13_advance_271 ?_
      refine J_goto Z.1 276 dX13_advance_272 (by decide) ?_
      refine J_lv [] rfl ?_
      exact pX13_advance_b276_ok Z hK t0  _ _ _ hf
  · rw [if_neg c3] at hf
    refine J_aload_n Z.1 0 dX13_advance_208 rfl rfl ?_
    refine J_get (v := .int (hI h this 16)) Z.1 dX13_advance_209 fl_X13_133 t0 rfl ?_
    refine J_aload_n Z.1 0 dX13_advance_212 rfl rfl ?_
    refine J_get (v := .int (hI h this 15)) Z.1 dX13_advance_213 fl_X13_136 t0 rfl ?_
    refine J_isub Z.1 dX13_advance_216 ?_
    refine J_iconst Z.1 (v := 4) (by decide) dX13_advance_217 ?_
    refine J_icmp_ge Z.1 244 dX13_advance_218 (by decide) (fun c5 => ?_) (fun c5 => ?_)
    · rw [if_pos c5] at hf
      exact pX13_advance_b244_ok Z hK t0 hk194 _ hf
    · rw [if_neg c5] at hf
      refine J_aload_n Z.1 0 dX13_advance_221 rfl rfl ?_
      refine J_bipush Z.1 (v := 10) (by decide) dX13_advance_222 ?_
      refine J_aload_n Z.1 0 dX13_advance_224 rfl rfl ?_
      refine J_get (v := .int (hI h this 17)) Z.1 dX13_advance_225 fl_X13_158 t0 rfl ?_
      refine J_imul Z.1 dX13_advance_228 ?_
      refine J_aload_n Z.1 0 dX13_advance_229 rfl rfl ?_
      refine J_aload_n Z.1 0 dX13_advance_230 rfl rfl ?_
      refine J_get (v := .int (hI h this 16)) Z.1 dX13_advance_231 fl_X13_133 t0 rfl ?_
      replace hf := bd_i hf
      obtain ⟨x6, q7, hf⟩ := hf
      refine J_callV (ci := 11) (as := [.int (hI h this 16)]) (rest := [.int (10 * (hI h this 17)), va_rf (some this)]) (sy := [.int x6, .int (10 * (hI h this 17)), va_rf (some this)]) Z.1 dX13_advance_234 cw_X13_139 (pX13_look2_ok G (dk - 1) (by omega) q7) rfl rfl t0 (zG Z) rfl (by simp [cat_i, cat_l, cat_d, cat_rf]) (zF Z (by omega)) (zO Z (by omega) (by decide)) (zM _) Z.2.1 Z.2.1 rfl rfl ?_
      refine J_iadd Z.1 dX13_advance_237 ?_
      refine J_bipush Z.1 (v := 48) (by decide) dX13_advance_238 ?_
      refine J_isub Z.1 dX13_advance_240 ?_
      refine J_putI Z.1 dX13_advance_241 fl_X13_158 (fun q => by cases q) t0 rfl rfl (congrArg Value.int (hI_s _ _ _ _)) ?_
      refine J_th (fun h8 eh8 => ?_)
      replace hf := lt_i hf h8 eh8
      exact pX13_advance_b244_ok Z hK t0 hk194 _ hf
def pX13_advance_l194 (g : MT) (this : Nat) : Nat → CT → Option CT
  | 0, _ => none
  | n + 1, h => pX13_advance_b194 g this (pX13_advance_l194 g this n) h
theorem pX13_advance_l194_ok {X : Cx} {G : Gx} {dk : Nat} {g : MT} {h0 : CT} {this : Nat} (Z : Zx X G cX13_advance RX13 2 dk none none g h0) (hK : 1 ≤ dk) (t0 : gT g this = 12) : ∀ (n : Nat) (h : CT), pX13_advance_l194 g this n h = some h0 → J X g h 194 [(0, va_rf (some this))] [] := by
  intro n
  induction n with
  | zero => intro h hf; cases hf
  | succ n ih => intro h hf; exact pX13_advance_b194_ok Z hK t0 ih h hf
def pX13_advance_b166 (g : MT) (this : Nat) (k109 : CT → Option CT) (s0 : Nat) (s1 : Int64) (h : CT) : Option CT := tg g s0 12 (lt (sL h s0 18 s1) fun h2 => (lt (sI h2 this 16 ((hI h2 this 16) + 1)) fun h3 => (k109 h3)))
set_option maxRecDepth 10000 in
set_option maxHeartbeats 4000000 in
theorem pX13_advance_b166_ok {X : Cx} {G : Gx} {dk : Nat} {g : MT} {h0 : CT} {this : Nat} {k109 : CT → Option CT} (Z : Zx X G cX13_advance RX13 2 dk none none g h0) (hK : 1 ≤ dk) (t0 : gT g this = 12) (hk109 : ∀ (h : CT), k109 h = some h0 → J X g h 109 [(0, va_rf (some this))] []) (s0 : Nat) (s1 : Int64) (h : CT) (hf : pX13_advance_b166 g this k109 s0 s1 h = some h0) : J X g h 166 [(0, va_rf (some this))] [.long s1, va_rf (some s0)] := by
  unfold pX13_advance_b166 at hf
  replace hf := tg_i hf
  obtain ⟨t1, hf⟩ := hf
  refine J_putL Z.1 dX13_advance_166 fl_X13_148 (fun q => by cases q) t1 rfl rfl (congrArg Value.long (hL_s _ _ _ _)) ?_
  refine J_th (fun h2 eh2 => ?_)
  replace hf := lt_i hf h2 eh2
  refine J_aload_n Z.1 0 dX13_advance_169 rfl rfl ?_
  refine J_dup Z.1 dX13_advance_170 rfl ?_
  refine J_get (v := .int (hI h2 this 16)) Z.1 dX13_advance_171 fl_X13_133 t0 rfl ?_
  refine J_iconst Z.1 (v := 1) (by decide) dX13_advance_174 ?_
  refine J_iadd Z.1 dX13_advance_175 ?_
  refine J_putI Z.1 dX13_advance_176 fl_X13_133 (fun q => by cases q) t0 rfl rfl (congrArg Value.int (hI_s _ _ _ _)) ?_
  refine J_th (fun h3 eh3 => ?_)
  replace hf := lt_i hf h3 eh3
  refine J_goto Z.1 109 dX13_advance_179 (by decide) ?_
  exact hk109 _ hf
def pX13_advance_b109 (g : MT) (this : Nat) (k109 : CT → Option CT) (h : CT) : Option CT := bd (pX13_look2 g h this (hI h this 16)) fun x1 => (if (pX13_isLetter x1) = 0 then some h else if 8 ≤ ((hI h this 16) - (hI h this 15)) then pX13_advance_b166 g this k109 this (-1) h else bd (pX13_look2 g h this (hI h this 16)) fun x5 => (pX13_advance_b166 g this k109 this ((((hL h this 18) * 32) + (Int32.toInt64 x5)) - 96) h))
set_option maxRecDepth 10000 in
set_option maxHeartbeats 4000000 in
theorem pX13_advance_b109_ok {X : Cx} {G : Gx} {dk : Nat} {g : MT} {h0 : CT} {this : Nat} {k109 : CT → Option CT} (Z : Zx X G cX13_advance RX13 2 dk none none g h0) (hK : 1 ≤ dk) (t0 : gT g this = 12) (hk109 : ∀ (h : CT), k109 h = some h0 → J X g h 109 [(0, va_rf (some this))] []) (h : CT) (hf : pX13_advance_b109 g this k109 h = some h0) : J X g h 109 [(0, va_rf (some this))] [] := by
  unfold pX13_advance_b109 at hf
  refine J_aload_n Z.1 0 dX13_advance_109 rfl rfl ?_
  refine J_aload_n Z.1 0 dX13_advance_110 rfl rfl ?_
  refine J_get (v := .int (hI h this 16)) Z.1 dX13_advance_111 fl_X13_133 t0 rfl ?_
  replace hf := bd_i hf
  obtain ⟨x1, q2, hf⟩ := hf
  refine J_callV (ci := 11) (as := [.int (hI h this 16)]) (rest := []) (sy := [.int x1]) Z.1 dX13_advance_114 cw_X13_139 (pX13_look2_ok G (dk - 1) (by omega) q2) rfl rfl t0 (zG Z) rfl (by decide) (zF Z (by omega)) (zO Z (by omega) (by decide)) (zM _) Z.2.1 Z.2.1 rfl rfl ?_
  refine J_callS (as := [.int x1]) (rest := []) (sy := [.int (pX13_isLetter x1)]) Z.1 dX13_advance_117 cw_X13_145 (pX13_isLetter_ok G (dk - 1) (by omega) g h x1) (zG Z) rfl (by decide) (zF Z (by omega)) (zO Z (by omega) (by decide)) (zM _) Z.2.1 Z.2.1 rfl rfl ?_
  refine J_if_eq Z.1 307 dX13_advance_120 (by decide) (fun c3 => ?_) (fun c3 => ?_)
  · rw [if_pos c3] at hf
    cases hf
    exact J_vret Z.1 Z.2.2.2.2.2 dX13_advance_307
  · rw [if_neg c3] at hf
    refine J_aload_n Z.1 0 dX13_advance_123 rfl rfl ?_
    refine J_aload_n Z.1 0 dX13_advance_124 rfl rfl ?_
    refine J_get (v := .int (hI h this 16)) Z.1 dX13_advance_125 fl_X13_133 t0 rfl ?_
    refine J_aload_n Z.1 0 dX13_advance_128 rfl rfl ?_
    refine J_get (v := .int (hI h this 15)) Z.1 dX13_advance_129 fl_X13_136 t0 rfl ?_
    refine J_isub Z.1 dX13_advance_132 ?_
    refine J_bipush Z.1 (v := 8) (by decide) dX13_advance_133 ?_
    refine J_icmp_ge Z.1 163 dX13_advance_135 (by decide) (fun c4 => ?_) (fun c4 => ?_)
    · rw [if_pos c4] at hf
      refine J_ldc2 Z.1 q_1596 dX13_advance_163 ?_
      exact pX13_advance_b166_ok Z hK t0 hk109 _ _ _ hf
    · rw [if_neg c4] at hf
      refine J_aload_n Z.1 0 dX13_advance_138 rfl rfl ?_
      refine J_get (v := .long (hL h this 18)) Z.1 dX13_advance_139 fl_X13_148 t0 rfl ?_
      refine J_ldc2 Z.1 q_1635 dX13_advance_142 ?_
      refine J_lmul Z.1 dX13_advance_145 ?_
      refine J_aload_n Z.1 0 dX13_advance_146 rfl rfl ?_
      refine J_aload_n Z.1 0 dX13_advance_147 rfl rfl ?_
      refine J_get (v := .int (hI h this 16)) Z.1 dX13_advance_148 fl_X13_133 t0 rfl ?_
      replace hf := bd_i hf
      obtain ⟨x5, q6, hf⟩ := hf
      refine J_callV (ci := 11) (as := [.int (hI h this 16)]) (rest := [.long ((hL h this 18) * 32), va_rf (some this)]) (sy := [.int x5, .long ((hL h this 18) * 32), va_rf (some this)]) Z.1 dX13_advance_151 cw_X13_139 (pX13_look2_ok G (dk - 1) (by omega) q6) rfl rfl t0 (zG Z) rfl (by simp [cat_i, cat_l, cat_d, cat_rf]) (zF Z (by omega)) (zO Z (by omega) (by decide)) (zM _) Z.2.1 Z.2.1 rfl rfl ?_
      refine J_i2l Z.1 dX13_advance_154 ?_
      refine J_ladd Z.1 dX13_advance_155 ?_
      refine J_ldc2 Z.1 q_1636 dX13_advance_156 ?_
      refine J_lsub Z.1 dX13_advance_159 ?_
      refine J_goto Z.1 166 dX13_advance_160 (by decide) ?_
      exact pX13_advance_b166_ok Z hK t0 hk109 _ _ _ hf
def pX13_advance_l109 (g : MT) (this : Nat) : Nat → CT → Option CT
  | 0, _ => none
  | n + 1, h => pX13_advance_b109 g this (pX13_advance_l109 g this n) h
theorem pX13_advance_l109_ok {X : Cx} {G : Gx} {dk : Nat} {g : MT} {h0 : CT} {this : Nat} (Z : Zx X G cX13_advance RX13 2 dk none none g h0) (hK : 1 ≤ dk) (t0 : gT g this = 12) : ∀ (n : Nat) (h : CT), pX13_advance_l109 g this n h = some h0 → J X g h 109 [(0, va_rf (some this))] [] := by
  intro n
  induction n with
  | zero => intro h hf; cases hf
  | succ n ih => intro h hf; exact pX13_advance_b109_ok Z hK t0 ih h hf
def pX13_advance_b58 (g : MT) (this : Nat) (h : CT) : Option CT := lt (sI h this 16 (hI h this 15)) fun h1 => (if (hI h1 this 15) < (hI h1 this 9) then bd (pX13_look2 g h1 this (hI h1 this 15)) fun x3 => (if (pX13_isLetter x3) = 0 then if (pX13_isDigit x3) = 0 then lt (sI h1 this 16 ((hI h1 this 15) + 1)) fun h7 => (if x3 = 59 then pX13_advance_b304 g this  this 3 h7 else pX13_advance_b304 g this  this 4 h7) else lt (sI h1 this 17 0) fun h9 => (pX13_advance_l194 g this  FUEL h9) else lt (sI h1 this 14 1) fun h10 => (lt (sL h10 this 18 0) fun h11 => (pX13_advance_l109 g this  FUEL h11))) else lt (sI h1 this 14 0) fun h12 => (some h12))
set_option maxRecDepth 10000 in
set_option maxHeartbeats 4000000 in
theorem pX13_advance_b58_ok {X : Cx} {G : Gx} {dk : Nat} {g : MT} {h0 : CT} {this : Nat} (Z : Zx X G cX13_advance RX13 2 dk none none g h0) (hK : 1 ≤ dk) (t0 : gT g this = 12) (h : CT) (hf : pX13_advance_b58 g this h = some h0) : J X g h 58 [(0, va_rf (some this))] [] := by
  unfold pX13_advance_b58 at hf
  refine J_aload_n Z.1 0 dX13_advance_58 rfl rfl ?_
  refine J_aload_n Z.1 0 dX13_advance_59 rfl rfl ?_
  refine J_get (v := .int (hI h this 15)) Z.1 dX13_advance_60 fl_X13_136 t0 rfl ?_
  refine J_putI Z.1 dX13_advance_63 fl_X13_133 (fun q => by cases q) t0 rfl rfl (congrArg Value.int (hI_s _ _ _ _)) ?_
  refine J_th (fun h1 eh1 => ?_)
  replace hf := lt_i hf h1 eh1
  refine J_aload_n Z.1 0 dX13_advance_66 rfl rfl ?_
  refine J_get (v := .int (hI h1 this 15)) Z.1 dX13_advance_67 fl_X13_136 t0 rfl ?_
  refine J_aload_n Z.1 0 dX13_advance_70 rfl rfl ?_
  refine J_get (v := .int (hI h1 this 9)) Z.1 dX13_advance_71 fl_X13_130 t0 rfl ?_
  refine J_icmp_lt Z.1 83 dX13_advance_74 (by decide) (fun c2 => ?_) (fun c2 => ?_)
  · rw [if_pos c2] at hf
    refine J_aload_n Z.1 0 dX13_advance_83 rfl rfl ?_
    refine J_aload_n Z.1 0 dX13_advance_84 rfl rfl ?_
    refine J_get (v := .int (hI h1 this 15)) Z.1 dX13_advance_85 fl_X13_136 t0 rfl ?_
    replace hf := bd_i hf
    obtain ⟨x3, q4, hf⟩ := hf
    refine J_callV (ci := 11) (as := [.int (hI h1 this 15)]) (rest := []) (sy := [.int x3]) Z.1 dX13_advance_88 cw_X13_139 (pX13_look2_ok G (dk - 1) (by omega) q4) rfl rfl t0 (zG Z) rfl (by decide) (zF Z (by omega)) (zO Z (by omega) (by decide)) (zM _) Z.2.1 Z.2.1 rfl rfl ?_
    refine J_istore_n Z.1 (lv2 := [(1, .int x3), (0, va_rf (some this))]) dX13_advance_91 rfl (zL Z (by decide)) rfl ?_
    refine J_iload_n Z.1 0 dX13_advance_92 rfl rfl ?_
    refine J_callS (as := [.int x3]) (rest := []) (sy := [.int (pX13_isLetter x3)]) Z.1 dX13_advance_93 cw_X13_145 (pX13_isLetter_ok G (dk - 1) (by omega) g h1 x3) (zG Z) rfl (by decide) (zF Z (by omega)) (zO Z (by omega) (by decide)) (zM _) Z.2.1 Z.2.1 rfl rfl ?_
    refine J_if_eq Z.1 182 dX13_advance_96 (by decide) (fun c5 => ?_) (fun c5 => ?_)
    · rw [if_pos c5] at hf
      refine J_iload_n Z.1 0 dX13_advance_182 rfl rfl ?_
      refine J_callS (as := [.int x3]) (rest := []) (sy := [.int (pX13_isDigit x3)]) Z.1 dX13_advance_183 cw_X13_155 (pX13_isDigit_ok G (dk - 1) (by omega) g h1 x3) (zG Z) rfl (by decide) (zF Z (by omega)) (zO Z (by omega) (by decide)) (zM _) Z.2.1 Z.2.1 rfl rfl ?_
      refine J_if_eq Z.1 282 dX13_advance_186 (by decide) (fun c6 => ?_) (fun c6 => ?_)
      · rw [if_pos c6] at hf
        refine J_aload_n Z.1 1 dX13_advance_282 rfl rfl ?_
        refine J_aload_n Z.1 1 dX13_advance_283 rfl rfl ?_
        refine J_get (v := .int (hI h1 this 15)) Z.1 dX13_advance_284 fl_X13_136 t0 rfl ?_
        refine J_iconst Z.1 (v := 1) (by decide) dX13_advance_287 ?_
        refine J_iadd Z.1 dX13_advance_288 ?_
        refine J_putI Z.1 dX13_advance_289 fl_X13_133 (fun q => by cases q) t0 rfl rfl (congrArg Value.int (hI_s _ _ _ _)) ?_
        refine J_th (fun h7 eh7 => ?_)
        replace hf := lt_i hf h7 eh7
        refine J_aload_n Z.1 1 dX13_advance_292 rfl rfl ?_
        refine J_iload_n Z.1 0 dX13_advance_293 rfl rfl ?_
        refine J_bipush Z.1 (v := 59) (by decide) dX13_advance_294 ?_
        refine J_icmp_ne Z.1 303 dX13_advance_296 (by decide) (fun c8 => ?_) (fun c8 => ?_)
        · rw [if_neg c8] at hf
          refine J_iconst Z.1 (v := 4) (by decide) dX13_advance_303 ?_
          refine J_lv [] rfl ?_
          exact pX13_advance_b304_ok Z hK t0  _ _ _ hf
        · rw [if_pos c8] at hf
          refine J_iconst Z.1 (v := 3) (by decide) dX13_advance_299 ?_
          refine J_goto Z.1 304 dX13_advance_300 (by decide) ?_
          refine J_lv [] rfl ?_
          exact pX13_advance_b304_ok Z hK t0  _ _ _ hf
      · rw [if_neg c6] at hf
        refine J_aload_n Z.1 1 dX13_advance_189 rfl rfl ?_
        refine J_iconst Z.1 (v := 0) (by decide) dX13_advance_190 ?_
        refine J_putI Z.1 dX13_advance_191 fl_X13_158 (fun q => by cases q) t0 rfl rfl (congrArg Value.int (hI_s _ _ _ _)) ?_
        refine J_th (fun h9 eh9 => ?_)
        replace hf := lt_i hf h9 eh9
        refine J_lv [1] rfl ?_
        exact pX13_advance_l194_ok Z hK t0  FUEL _ hf
    · rw [if_neg c5] at hf
      refine J_aload_n Z.1 1 dX13_advance_99 rfl rfl ?_
      refine J_iconst Z.1 (v := 1) (by decide) dX13_advance_100 ?_
      refine J_putI Z.1 dX13_advance_101 fl_X13_142 (fun q => by cases q) t0 rfl rfl (congrArg Value.int (hI_s _ _ _ _)) ?_
      refine J_th (fun h10 eh10 => ?_)
      replace hf := lt_i hf h10 eh10
      refine J_aload_n Z.1 1 dX13_advance_104 rfl rfl ?_
      refine J_lconst Z.1 (v := 0) (by decide) dX13_advance_105 ?_
      refine J_putL Z.1 dX13_advance_106 fl_X13_148 (fun q => by cases q) t0 rfl rfl (congrArg Value.long (hL_s _ _ _ _)) ?_
      refine J_th (fun h11 eh11 => ?_)
      replace hf := lt_i hf h11 eh11
      refine J_lv [1] rfl ?_
      exact pX13_advance_l109_ok Z hK t0  FUEL _ hf
  · rw [if_neg c2] at hf
    refine J_aload_n Z.1 0 dX13_advance_77 rfl rfl ?_
    refine J_iconst Z.1 (v := 0) (by decide) dX13_advance_78 ?_
    refine J_putI Z.1 dX13_advance_79 fl_X13_142 (fun q => by cases q) t0 rfl rfl (congrArg Value.int (hI_s _ _ _ _)) ?_
    refine J_th (fun h12 eh12 => ?_)
    replace hf := lt_i hf h12 eh12
    cases hf
    exact J_vret Z.1 Z.2.2.2.2.2 dX13_advance_82
def pX13_advance_b45 (g : MT) (this : Nat) (k8 : CT → Option CT) (h : CT) : Option CT := lt (sI h this 15 ((hI h this 15) + 1)) fun h1 => (k8 h1)
set_option maxRecDepth 10000 in
set_option maxHeartbeats 4000000 in
theorem pX13_advance_b45_ok {X : Cx} {G : Gx} {dk : Nat} {g : MT} {h0 : CT} {this : Nat} {k8 : CT → Option CT} (Z : Zx X G cX13_advance RX13 2 dk none none g h0) (hK : 1 ≤ dk) (t0 : gT g this = 12) (hk8 : ∀ (h : CT), k8 h = some h0 → J X g h 8 [(0, va_rf (some this))] []) (h : CT) (hf : pX13_advance_b45 g this k8 h = some h0) : J X g h 45 [(0, va_rf (some this))] [] := by
  unfold pX13_advance_b45 at hf
  refine J_aload_n Z.1 0 dX13_advance_45 rfl rfl ?_
  refine J_dup Z.1 dX13_advance_46 rfl ?_
  refine J_get (v := .int (hI h this 15)) Z.1 dX13_advance_47 fl_X13_136 t0 rfl ?_
  refine J_iconst Z.1 (v := 1) (by decide) dX13_advance_50 ?_
  refine J_iadd Z.1 dX13_advance_51 ?_
  refine J_putI Z.1 dX13_advance_52 fl_X13_136 (fun q => by cases q) t0 rfl rfl (congrArg Value.int (hI_s _ _ _ _)) ?_
  refine J_th (fun h1 eh1 => ?_)
  replace hf := lt_i hf h1 eh1
  refine J_goto Z.1 8 dX13_advance_55 (by decide) ?_
  exact hk8 _ hf
def pX13_advance_b8 (g : MT) (this : Nat) (k8 : CT → Option CT) (h : CT) : Option CT := if (hI h this 9) ≤ (hI h this 15) then pX13_advance_b58 g this  h else bd (pX13_look2 g h this (hI h this 15)) fun x2 => (if x2 = 10 then pX13_advance_b45 g this k8 h else bd (pX13_look2 g h this (hI h this 15)) fun x5 => (if x5 = 32 then pX13_advance_b45 g this k8 h else pX13_advance_b58 g this  h))
set_option maxRecDepth 10000 in
set_option maxHeartbeats 4000000 in
theorem pX13_advance_b8_ok {X : Cx} {G : Gx} {dk : Nat} {g : MT} {h0 : CT} {this : Nat} {k8 : CT → Option CT} (Z : Zx X G cX13_advance RX13 2 dk none none g h0) (hK : 1 ≤ dk) (t0 : gT g this = 12) (hk8 : ∀ (h : CT), k8 h = some h0 → J X g h 8 [(0, va_rf (some this))] []) (h : CT) (hf : pX13_advance_b8 g this k8 h = some h0) : J X g h 8 [(0, va_rf (some this))] [] := by
  unfold pX13_advance_b8 at hf
  refine J_aload_n Z.1 0 dX13_advance_8 rfl rfl ?_
  refine J_get (v := .int (hI h this 15)) Z.1 dX13_advance_9 fl_X13_136 t0 rfl ?_
  refine J_aload_n Z.1 0 dX13_advance_12 rfl rfl ?_
  refine J_get (v := .int (hI h this 9)) Z.1 dX13_advance_13 fl_X13_130 t0 rfl ?_
  refine J_icmp_ge Z.1 58 dX13_advance_16 (by decide) (fun c1 => ?_) (fun c1 => ?_)
  · rw [if_pos c1] at hf
    exact pX13_advance_b58_ok Z hK t0  _ hf
  · rw [if_neg c1] at hf
    refine J_aload_n Z.1 0 dX13_advance_19 rfl rfl ?_
    refine J_aload_n Z.1 0 dX13_advance_20 rfl rfl ?_
    refine J_get (v := .int (hI h this 15)) Z.1 dX13_advance_21 fl_X13_136 t0 rfl ?_
    replace hf := bd_i hf
    obtain ⟨x2, q3, hf⟩ := hf
    refine J_callV (ci := 11) (as := [.int (hI h this 15)]) (rest := []) (sy := [.int x2]) Z.1 dX13_advance_24 cw_X13_139 (pX13_look2_ok G (dk - 1) (by omega) q3) rfl rfl t0 (zG Z) rfl (by decide) (zF Z (by omega)) (zO Z (by omega) (by decide)) (zM _) Z.2.1 Z.2.1 rfl rfl ?_
    refine J_bipush Z.1 (v := 10) (by decide) dX13_advance_27 ?_
    refine J_icmp_eq Z.1 45 dX13_advance_29 (by decide) (fun c4 => ?_) (fun c4 => ?_)
    · rw [if_pos c4] at hf
      exact pX13_advance_b45_ok Z hK t0 hk8 _ hf
    · rw [if_neg c4] at hf
      refine J_aload_n Z.1 0 dX13_advance_32 rfl rfl ?_
      refine J_aload_n Z.1 0 dX13_advance_33 rfl rfl ?_
      refine J_get (v := .int (hI h this 15)) Z.1 dX13_advance_34 fl_X13_136 t0 rfl ?_
      replace hf := bd_i hf
      obtain ⟨x5, q6, hf⟩ := hf
      refine J_callV (ci := 11) (as := [.int (hI h this 15)]) (rest := []) (sy := [.int x5]) Z.1 dX13_advance_37 cw_X13_139 (pX13_look2_ok G (dk - 1) (by omega) q6) rfl rfl t0 (zG Z) rfl (by decide) (zF Z (by omega)) (zO Z (by omega) (by decide)) (zM _) Z.2.1 Z.2.1 rfl rfl ?_
      refine J_bipush Z.1 (v := 32) (by decide) dX13_advance_40 ?_
      refine J_icmp_ne Z.1 58 dX13_advance_42 (by decide) (fun c7 => ?_) (fun c7 => ?_)
      · rw [if_neg c7] at hf
        exact pX13_advance_b58_ok Z hK t0  _ hf
      · rw [if_pos c7] at hf
        exact pX13_advance_b45_ok Z hK t0 hk8 _ hf
def pX13_advance_l8 (g : MT) (this : Nat) : Nat → CT → Option CT
  | 0, _ => none
  | n + 1, h => pX13_advance_b8 g this (pX13_advance_l8 g this n) h
theorem pX13_advance_l8_ok {X : Cx} {G : Gx} {dk : Nat} {g : MT} {h0 : CT} {this : Nat} (Z : Zx X G cX13_advance RX13 2 dk none none g h0) (hK : 1 ≤ dk) (t0 : gT g this = 12) : ∀ (n : Nat) (h : CT), pX13_advance_l8 g this n h = some h0 → J X g h 8 [(0, va_rf (some this))] [] := by
  intro n
  induction n with
  | zero => intro h hf; cases hf
  | succ n ih => intro h hf; exact pX13_advance_b8_ok Z hK t0 ih h hf
def pX13_advance (g : MT) (h : CT) (this : Nat) : Option CT := tg g this 12 (lt (sI h this 15 (hI h this 16)) fun h1 => (pX13_advance_l8 g this  FUEL h1))
set_option maxRecDepth 10000 in
set_option maxHeartbeats 4000000 in
theorem pX13_advance_ok (G : Gx) (dk : Nat) (hK : 1 ≤ dk) {g : MT} {h h0 : CT} {this : Nat} (hf : pX13_advance g h this = some h0) : Ctr G dk yX13_advance cX13_advance 2 none [va_rf (some this)] g h none g h0 := by
  refine Ctr.ofZ (lv := [(0, va_rf (some this))]) (by decide +kernel) (by simp [cat_i, cat_l, cat_d, cat_rf]) rfl fun X Z => ?_
  unfold pX13_advance at hf
  replace hf := tg_i hf
  obtain ⟨t0, hf⟩ := hf
  refine J_aload_n Z.1 0 dX13_advance_0 rfl rfl ?_
  refine J_aload_n Z.1 0 dX13_advance_1 rfl rfl ?_
  refine J_get (v := .int (hI h this 16)) Z.1 dX13_advance_2 fl_X13_133 t0 rfl ?_
  refine J_putI Z.1 dX13_advance_5 fl_X13_136 (fun q => by cases q) t0 rfl rfl (congrArg Value.int (hI_s _ _ _ _)) ?_
  refine J_th (fun h1 eh1 => ?_)
  replace hf := lt_i hf h1 eh1
  exact pX13_advance_l8_ok Z hK t0  FUEL _ hf
theorem dX13_spelled_0 : decode cX13_spelled 0 = .ok (.iload_n 0, 1) := by decide +kernel
theorem dX13_spelled_1 : decode cX13_spelled 1 = .ok (.i2l, 1) := by decide +kernel
theorem dX13_spelled_2 : decode cX13_spelled 2 = .ok (.ldc2_w 153, 3) := by decide +kernel
theorem dX13_spelled_5 : decode cX13_spelled 5 = .ok (.lsub, 1) := by decide +kernel
theorem dX13_spelled_6 : decode cX13_spelled 6 = .ok (.ldc2_w 151, 3) := by decide +kernel
theorem dX13_spelled_9 : decode cX13_spelled 9 = .ok (.lmul, 1) := by decide +kernel
theorem dX13_spelled_10 : decode cX13_spelled 10 = .ok (.iload_n 1, 1) := by decide +kernel
theorem dX13_spelled_11 : decode cX13_spelled 11 = .ok (.i2l, 1) := by decide +kernel
theorem dX13_spelled_12 : decode cX13_spelled 12 = .ok (.ladd, 1) := by decide +kernel
theorem dX13_spelled_13 : decode cX13_spelled 13 = .ok (.ldc2_w 153, 3) := by decide +kernel
theorem dX13_spelled_16 : decode cX13_spelled 16 = .ok (.lsub, 1) := by decide +kernel
theorem dX13_spelled_17 : decode cX13_spelled 17 = .ok (.lstore 6, 2) := by decide +kernel
theorem dX13_spelled_19 : decode cX13_spelled 19 = .ok (.iload_n 2, 1) := by decide +kernel
theorem dX13_spelled_20 : decode cX13_spelled 20 = .ok (.ifCond .le 19, 3) := by decide +kernel
theorem dX13_spelled_23 : decode cX13_spelled 23 = .ok (.lload 6, 2) := by decide +kernel
theorem dX13_spelled_25 : decode cX13_spelled 25 = .ok (.ldc2_w 151, 3) := by decide +kernel
theorem dX13_spelled_28 : decode cX13_spelled 28 = .ok (.lmul, 1) := by decide +kernel
theorem dX13_spelled_29 : decode cX13_spelled 29 = .ok (.iload_n 2, 1) := by decide +kernel
theorem dX13_spelled_30 : decode cX13_spelled 30 = .ok (.i2l, 1) := by decide +kernel
theorem dX13_spelled_31 : decode cX13_spelled 31 = .ok (.ladd, 1) := by decide +kernel
theorem dX13_spelled_32 : decode cX13_spelled 32 = .ok (.ldc2_w 153, 3) := by decide +kernel
theorem dX13_spelled_35 : decode cX13_spelled 35 = .ok (.lsub, 1) := by decide +kernel
theorem dX13_spelled_36 : decode cX13_spelled 36 = .ok (.goto 5, 3) := by decide +kernel
theorem dX13_spelled_39 : decode cX13_spelled 39 = .ok (.lload 6, 2) := by decide +kernel
theorem dX13_spelled_41 : decode cX13_spelled 41 = .ok (.lstore 6, 2) := by decide +kernel
theorem dX13_spelled_43 : decode cX13_spelled 43 = .ok (.iload_n 3, 1) := by decide +kernel
theorem dX13_spelled_44 : decode cX13_spelled 44 = .ok (.ifCond .le 19, 3) := by decide +kernel
theorem dX13_spelled_47 : decode cX13_spelled 47 = .ok (.lload 6, 2) := by decide +kernel
theorem dX13_spelled_49 : decode cX13_spelled 49 = .ok (.ldc2_w 151, 3) := by decide +kernel
theorem dX13_spelled_52 : decode cX13_spelled 52 = .ok (.lmul, 1) := by decide +kernel
theorem dX13_spelled_53 : decode cX13_spelled 53 = .ok (.iload_n 3, 1) := by decide +kernel
theorem dX13_spelled_54 : decode cX13_spelled 54 = .ok (.i2l, 1) := by decide +kernel
theorem dX13_spelled_55 : decode cX13_spelled 55 = .ok (.ladd, 1) := by decide +kernel
theorem dX13_spelled_56 : decode cX13_spelled 56 = .ok (.ldc2_w 153, 3) := by decide +kernel
theorem dX13_spelled_59 : decode cX13_spelled 59 = .ok (.lsub, 1) := by decide +kernel
theorem dX13_spelled_60 : decode cX13_spelled 60 = .ok (.goto 5, 3) := by decide +kernel
theorem dX13_spelled_63 : decode cX13_spelled 63 = .ok (.lload 6, 2) := by decide +kernel
theorem dX13_spelled_65 : decode cX13_spelled 65 = .ok (.lstore 6, 2) := by decide +kernel
theorem dX13_spelled_67 : decode cX13_spelled 67 = .ok (.iload 4, 2) := by decide +kernel
theorem dX13_spelled_69 : decode cX13_spelled 69 = .ok (.ifCond .le 20, 3) := by decide +kernel
theorem dX13_spelled_72 : decode cX13_spelled 72 = .ok (.lload 6, 2) := by decide +kernel
theorem dX13_spelled_74 : decode cX13_spelled 74 = .ok (.ldc2_w 151, 3) := by decide +kernel
theorem dX13_spelled_77 : decode cX13_spelled 77 = .ok (.lmul, 1) := by decide +kernel
theorem dX13_spelled_78 : decode cX13_spelled 78 = .ok (.iload 4, 2) := by decide +kernel
theorem dX13_spelled_80 : decode cX13_spelled 80 = .ok (.i2l, 1) := by decide +kernel
theorem dX13_spelled_81 : decode cX13_spelled 81 = .ok (.ladd, 1) := by decide +kernel
theorem dX13_spelled_82 : decode cX13_spelled 82 = .ok (.ldc2_w 153, 3) := by decide +kernel
theorem dX13_spelled_85 : decode cX13_spelled 85 = .ok (.lsub, 1) := by decide +kernel
theorem dX13_spelled_86 : decode cX13_spelled 86 = .ok (.goto 5, 3) := by decide +kernel
theorem dX13_spelled_89 : decode cX13_spelled 89 = .ok (.lload 6, 2) := by decide +kernel
theorem dX13_spelled_91 : decode cX13_spelled 91 = .ok (.lstore 6, 2) := by decide +kernel
theorem dX13_spelled_93 : decode cX13_spelled 93 = .ok (.iload 5, 2) := by decide +kernel
theorem dX13_spelled_95 : decode cX13_spelled 95 = .ok (.ifCond .le 20, 3) := by decide +kernel
theorem dX13_spelled_98 : decode cX13_spelled 98 = .ok (.lload 6, 2) := by decide +kernel
theorem dX13_spelled_100 : decode cX13_spelled 100 = .ok (.ldc2_w 151, 3) := by decide +kernel
theorem dX13_spelled_103 : decode cX13_spelled 103 = .ok (.lmul, 1) := by decide +kernel
theorem dX13_spelled_104 : decode cX13_spelled 104 = .ok (.iload 5, 2) := by decide +kernel
theorem dX13_spelled_106 : decode cX13_spelled 106 = .ok (.i2l, 1) := by decide +kernel
theorem dX13_spelled_107 : decode cX13_spelled 107 = .ok (.ladd, 1) := by decide +kernel
theorem dX13_spelled_108 : decode cX13_spelled 108 = .ok (.ldc2_w 153, 3) := by decide +kernel
theorem dX13_spelled_111 : decode cX13_spelled 111 = .ok (.lsub, 1) := by decide +kernel
theorem dX13_spelled_112 : decode cX13_spelled 112 = .ok (.goto 5, 3) := by decide +kernel
theorem dX13_spelled_115 : decode cX13_spelled 115 = .ok (.lload 6, 2) := by decide +kernel
theorem dX13_spelled_117 : decode cX13_spelled 117 = .ok (.lreturn, 1) := by decide +kernel
def pX13_spelled_b91 (p0 : Int32) (p1 : Int32) (p2 : Int32) (p3 : Int32) (p4 : Int32) (p5 : Int32) (s0 : Int64) : Int64 := if p5 ≤ 0 then s0 else (((s0 * 32) + (Int32.toInt64 p5)) - 96)
set_option maxRecDepth 10000 in
set_option maxHeartbeats 4000000 in
theorem pX13_spelled_b91_ok {X : Cx} {G : Gx} {dk : Nat} {g : MT} {r0 : Int64} {h0 : CT} {p0 : Int32} {p1 : Int32} {p2 : Int32} {p3 : Int32} {p4 : Int32} {p5 : Int32} (Z : Zx X G cX13_spelled RX13 8 dk (some .long) (some (.long r0)) g h0) (hK : 0 ≤ dk) (s0 : Int64) (hf : pX13_spelled_b91 p0 p1 p2 p3 p4 p5 s0 = r0) : J X g h0 91 [(5, .int p5)] [.long s0] := by
  unfold pX13_spelled_b91 at hf
  refine J_lstore Z.1 (lv2 := [(6, .long s0), (5, .int p5)]) dX13_spelled_91 (zL Z (by decide)) rfl ?_
  refine J_iload Z.1 1 dX13_spelled_93 rfl ?_
  refine J_if_le Z.1 115 dX13_spelled_95 (by decide) (fun c1 => ?_) (fun c1 => ?_)
  · rw [if_pos c1] at hf
    refine J_lload Z.1 0 dX13_spelled_115 rfl ?_
    cases hf
    exact J_lret Z.1 Z.2.2.2.2.2 dX13_spelled_117
  · rw [if_neg c1] at hf
    refine J_lload Z.1 0 dX13_spelled_98 rfl ?_
    refine J_ldc2 Z.1 q_1635 dX13_spelled_100 ?_
    refine J_lmul Z.1 dX13_spelled_103 ?_
    refine J_iload Z.1 1 dX13_spelled_104 rfl ?_
    refine J_i2l Z.1 dX13_spelled_106 ?_
    refine J_ladd Z.1 dX13_spelled_107 ?_
    refine J_ldc2 Z.1 q_1636 dX13_spelled_108 ?_
    refine J_lsub Z.1 dX13_spelled_111 ?_
    refine J_goto Z.1 117 dX13_spelled_112 (by decide) ?_
    cases hf
    exact J_lret Z.1 Z.2.2.2.2.2 dX13_spelled_117
def pX13_spelled_b65 (p0 : Int32) (p1 : Int32) (p2 : Int32) (p3 : Int32) (p4 : Int32) (p5 : Int32) (s0 : Int64) : Int64 := if p4 ≤ 0 then pX13_spelled_b91 p0 p1 p2 p3 p4 p5  s0 else pX13_spelled_b91 p0 p1 p2 p3 p4 p5  (((s0 * 32) + (Int32.toInt64 p4)) - 96)
set_option maxRecDepth 10000 in
set_option maxHeartbeats 4000000 in
theorem pX13_spelled_b65_ok {X : Cx} {G : Gx} {dk : Nat} {g : MT} {r0 : Int64} {h0 : CT} {p0 : Int32} {p1 : Int32} {p2 : Int32} {p3 : Int32} {p4 : Int32} {p5 : Int32} (Z : Zx X G cX13_spelled RX13 8 dk (some .long) (some (.long r0)) g h0) (hK : 0 ≤ dk) (s0 : Int64) (hf : pX13_spelled_b65 p0 p1 p2 p3 p4 p5 s0 = r0) : J X g h0 65 [(4, .int p4), (5, .int p5)] [.long s0] := by
  unfold pX13_spelled_b65 at hf
  refine J_lstore Z.1 (lv2 := [(6, .long s0), (4, .int p4), (5, .int p5)]) dX13_spelled_65 (zL Z (by decide)) rfl ?_
  refine J_iload Z.1 1 dX13_spelled_67 rfl ?_
  refine J_if_le Z.1 89 dX13_spelled_69 (by decide) (fun c1 => ?_) (fun c1 => ?_)
  · rw [if_pos c1] at hf
    refine J_lload Z.1 0 dX13_spelled_89 rfl ?_
    refine J_lv [2] rfl ?_
    exact pX13_spelled_b91_ok Z hK  _ hf
  · rw [if_neg c1] at hf
    refine J_lload Z.1 0 dX13_spelled_72 rfl ?_
    refine J_ldc2 Z.1 q_1635 dX13_spelled_74 ?_
    refine J_lmul Z.1 dX13_spelled_77 ?_
    refine J_iload Z.1 1 dX13_spelled_78 rfl ?_
    refine J_i2l Z.1 dX13_spelled_80 ?_
    refine J_ladd Z.1 dX13_spelled_81 ?_
    refine J_ldc2 Z.1 q_1636 dX13_spelled_82 ?_
    refine J_lsub Z.1 dX13_spelled_85 ?_
    refine J_goto Z.1 91 dX13_spelled_86 (by decide) ?_
    refine J_lv [2] rfl ?_
    exact pX13_spelled_b91_ok Z hK  _ hf
def pX13_spelled_b41 (p0 : Int32) (p1 : Int32) (p2 : Int32) (p3 : Int32) (p4 : Int32) (p5 : Int32) (s0 : Int64) : Int64 := if p3 ≤ 0 then pX13_spelled_b65 p0 p1 p2 p3 p4 p5  s0 else pX13_spelled_b65 p0 p1 p2 p3 p4 p5  (((s0 * 32) + (Int32.toInt64 p3)) - 96)
set_option maxRecDepth 10000 in
set_option maxHeartbeats 4000000 in
theorem pX13_spelled_b41_ok {X : Cx} {G : Gx} {dk : Nat} {g : MT} {r0 : Int64} {h0 : CT} {p0 : Int32} {p1 : Int32} {p2 : Int32} {p3 : Int32} {p4 : Int32} {p5 : Int32} (Z : Zx X G cX13_spelled RX13 8 dk (some .long) (some (.long r0)) g h0) (hK : 0 ≤ dk) (s0 : Int64) (hf : pX13_spelled_b41 p0 p1 p2 p3 p4 p5 s0 = r0) : J X g h0 41 [(3, .int p3), (4, .int p4), (5, .int p5)] [.long s0] := by
  unfold pX13_spelled_b41 at hf
  refine J_lstore Z.1 (lv2 := [(6, .long s0), (3, .int p3), (4, .int p4), (5, .int p5)]) dX13_spelled_41 (zL Z (by decide)) rfl ?_
  refine J_iload_n Z.1 1 dX13_spelled_43 rfl rfl ?_
  refine J_if_le Z.1 63 dX13_spelled_44 (by decide) (fun c1 => ?_) (fun c1 => ?_)
  · rw [if_pos c1] at hf
    refine J_lload Z.1 0 dX13_spelled_63 rfl ?_
    refine J_lv [2, 3] rfl ?_
    exact pX13_spelled_b65_ok Z hK  _ hf
  · rw [if_neg c1] at hf
    refine J_lload Z.1 0 dX13_spelled_47 rfl ?_
    refine J_ldc2 Z.1 q_1635 dX13_spelled_49 ?_
    refine J_lmul Z.1 dX13_spelled_52 ?_
    refine J_iload_n Z.1 1 dX13_spelled_53 rfl rfl ?_
    refine J_i2l Z.1 dX13_spelled_54 ?_
    refine J_ladd Z.1 dX13_spelled_55 ?_
    refine J_ldc2 Z.1 q_1636 dX13_spelled_56 ?_
    refine J_lsub Z.1 dX13_spelled_59 ?_
    refine J_goto Z.1 65 dX13_spelled_60 (by decide) ?_
    refine J_lv [2, 3] rfl ?_
    exact pX13_spelled_b65_ok Z hK  _ hf
def pX13_spelled (p0 : Int32) (p1 : Int32) (p2 : Int32) (p3 : Int32) (p4 : Int32) (p5 : Int32) : Int64 := lt (((((Int32.toInt64 p0) - 96) * 32) + (Int32.toInt64 p1)) - 96) fun x1 => (if p2 ≤ 0 then pX13_spelled_b41 p0 p1 p2 p3 p4 p5  x1 else pX13_spelled_b41 p0 p1 p2 p3 p4 p5  (((x1 * 32) + (Int32.toInt64 p2)) - 96))
set_option maxRecDepth 10000 in
set_option maxHeartbeats 4000000 in
theorem pX13_spelled_ok (G : Gx) (dk : Nat) (hK : 0 ≤ dk) (g : MT) (h0 : CT) (p0 : Int32) (p1 : Int32) (p2 : Int32) (p3 : Int32) (p4 : Int32) (p5 : Int32) : Ctr G dk yX13_spelled cX13_spelled 8 (some .long) [.int p0, .int p1, .int p2, .int p3, .int p4, .int p5] g h0 (some (.long (pX13_spelled p0 p1 p2 p3 p4 p5))) g h0 := by
  obtain ⟨r0, hf⟩ : ∃ z, pX13_spelled p0 p1 p2 p3 p4 p5 = z := ⟨_, rfl⟩
  rw [hf]
  refine Ctr.ofZ (lv := [(0, .int p0), (1, .int p1), (2, .int p2), (3, .int p3), (4, .int p4), (5, .int p5)]) (by decide +kernel) (by simp [cat_i, cat_l, cat_d, cat_rf]) rfl fun X Z => ?_
  unfold pX13_spelled at hf
  refine J_iload_n Z.1 0 dX13_spelled_0 rfl rfl ?_
  refine J_i2l Z.1 dX13_spelled_1 ?_
  refine J_ldc2 Z.1 q_1636 dX13_spelled_2 ?_
  refine J_lsub Z.1 dX13_spelled_5 ?_
  refine J_ldc2 Z.1 q_1635 dX13_spelled_6 ?_
  refine J_lmul Z.1 dX13_spelled_9 ?_
  refine J_iload_n Z.1 1 dX13_spelled_10 rfl rfl ?_
  refine J_i2l Z.1 dX13_spelled_11 ?_
  refine J_ladd Z.1 dX13_spelled_12 ?_
  refine J_ldc2 Z.1 q_1636 dX13_spelled_13 ?_
  refine J_lsub Z.1 dX13_spelled_16 ?_
  refine J_tl (fun x1 ex1 => ?_)
  replace hf := lt_i hf x1 ex1
  refine J_lstore Z.1 (lv2 := [(6, .long x1), (0, .int p0), (1, .int p1), (2, .int p2), (3, .int p3), (4, .int p4), (5, .int p5)]) dX13_spelled_17 (zL Z (by decide)) rfl ?_
  refine J_iload_n Z.1 3 dX13_spelled_19 rfl rfl ?_
  refine J_if_le Z.1 39 dX13_spelled_20 (by decide) (fun c2 => ?_) (fun c2 => ?_)
  · rw [if_pos c2] at hf
    refine J_lload Z.1 0 dX13_spelled_39 rfl ?_
    refine J_lv [4, 5, 6] rfl ?_
    exact pX13_spelled_b41_ok Z hK  _ hf
  · rw [if_neg c2] at hf
    refine J_lload Z.1 0 dX13_spelled_23 rfl ?_
    refine J_ldc2 Z.1 q_1635 dX13_spelled_25 ?_
    refine J_lmul Z.1 dX13_spelled_28 ?_
    refine J_iload_n Z.1 3 dX13_spelled_29 rfl rfl ?_
    refine J_i2l Z.1 dX13_spelled_30 ?_
    refine J_ladd Z.1 dX13_spelled_31 ?_
    refine J_ldc2 Z.1 q_1636 dX13_spelled_32 ?_
    refine J_lsub Z.1 dX13_spelled_35 ?_
    refine J_goto Z.1 41 dX13_spelled_36 (by decide) ?_
    refine J_lv [4, 5, 6] rfl ?_
    exact pX13_spelled_b41_ok Z hK  _ hf
theorem dX13_isWord_0 : decode cX13_isWord 0 = .ok (.aload_n 0, 1) := by decide +kernel
theorem dX13_isWord_1 : decode cX13_isWord 1 = .ok (.getfield 142, 3) := by decide +kernel
theorem dX13_isWord_4 : decode cX13_isWord 4 = .ok (.iconst 1, 1) := by decide +kernel
theorem dX13_isWord_5 : decode cX13_isWord 5 = .ok (.if_icmp .ne 16, 3) := by decide +kernel
theorem dX13_isWord_8 : decode cX13_isWord 8 = .ok (.aload_n 0, 1) := by decide +kernel
theorem dX13_isWord_9 : decode cX13_isWord 9 = .ok (.getfield 148, 3) := by decide +kernel
theorem dX13_isWord_12 : decode cX13_isWord 12 = .ok (.lload_n 1, 1) := by decide +kernel
theorem dX13_isWord_13 : decode cX13_isWord 13 = .ok (.lcmp, 1) := by decide +kernel
theorem dX13_isWord_14 : decode cX13_isWord 14 = .ok (.ifCond .ne 7, 3) := by decide +kernel
theorem dX13_isWord_17 : decode cX13_isWord 17 = .ok (.iconst 1, 1) := by decide +kernel
theorem dX13_isWord_18 : decode cX13_isWord 18 = .ok (.goto 4, 3) := by decide +kernel
theorem dX13_isWord_21 : decode cX13_isWord 21 = .ok (.iconst 0, 1) := by decide +kernel
theorem dX13_isWord_22 : decode cX13_isWord 22 = .ok (.ireturn, 1) := by decide +kernel
def pX13_isWord (g : MT) (h : CT) (this : Nat) (p1 : Int64) : Option Int32 := tg g this 12 (if (hI h this 14) = 1 then if (lg_cmp (hL h this 18) p1) = 0 then some 1 else some 0 else some 0)
set_option maxRecDepth 10000 in
set_option maxHeartbeats 4000000 in
theorem pX13_isWord_ok (G : Gx) (dk : Nat) (hK : 0 ≤ dk) {g : MT} {h : CT} {this : Nat} {p1 : Int64} {r0 : Int32} (hf : pX13_isWord g h this p1 = some r0) : Ctr G dk yX13_isWord cX13_isWord 3 (some .boolean) [va_rf (some this), .long p1] g h (some (.int r0)) g h := by
  refine Ctr.ofZ (lv := [(0, va_rf (some this)), (1, .long p1)]) (by decide +kernel) (by simp [cat_i, cat_l, cat_d, cat_rf]) rfl fun X Z => ?_
  unfold pX13_isWord at hf
  replace hf := tg_i hf
  obtain ⟨t0, hf⟩ := hf
  refine J_aload_n Z.1 0 dX13_isWord_0 rfl rfl ?_
  refine J_get (v := .int (hI h this 14)) Z.1 dX13_isWord_1 fl_X13_142 t0 rfl ?_
  refine J_iconst Z.1 (v := 1) (by decide) dX13_isWord_4 ?_
  refine J_icmp_ne Z.1 21 dX13_isWord_5 (by decide) (fun c1 => ?_) (fun c1 => ?_)
  · rw [if_neg c1] at hf
    refine J_iconst Z.1 (v := 0) (by decide) dX13_isWord_21 ?_
    cases hf
    exact J_zret Z.1 Z.2.2.2.2.2 (z_n (Or.inl rfl)) dX13_isWord_22
  · rw [if_pos c1] at hf
    refine J_aload_n Z.1 0 dX13_isWord_8 rfl rfl ?_
    refine J_get (v := .long (hL h this 18)) Z.1 dX13_isWord_9 fl_X13_148 t0 rfl ?_
    refine J_lload_n Z.1 1 dX13_isWord_12 rfl rfl ?_
    refine J_lcmp Z.1 dX13_isWord_13 ?_
    refine J_if_ne Z.1 21 dX13_isWord_14 (by decide) (fun c2 => ?_) (fun c2 => ?_)
    · rw [if_neg c2] at hf
      refine J_iconst Z.1 (v := 0) (by decide) dX13_isWord_21 ?_
      cases hf
      exact J_zret Z.1 Z.2.2.2.2.2 (z_n (Or.inl rfl)) dX13_isWord_22
    · rw [if_pos c2] at hf
      refine J_iconst Z.1 (v := 1) (by decide) dX13_isWord_17 ?_
      refine J_goto Z.1 22 dX13_isWord_18 (by decide) ?_
      cases hf
      exact J_zret Z.1 Z.2.2.2.2.2 (z_n (Or.inr rfl)) dX13_isWord_22
theorem dX13_isAt_0 : decode cX13_isAt 0 = .ok (.aload_n 0, 1) := by decide +kernel
theorem dX13_isAt_1 : decode cX13_isAt 1 = .ok (.bipush 97, 2) := by decide +kernel
theorem dX13_isAt_3 : decode cX13_isAt 3 = .ok (.bipush 116, 2) := by decide +kernel
theorem dX13_isAt_5 : decode cX13_isAt 5 = .ok (.iconst 0, 1) := by decide +kernel
theorem dX13_isAt_6 : decode cX13_isAt 6 = .ok (.iconst 0, 1) := by decide +kernel
theorem dX13_isAt_7 : decode cX13_isAt 7 = .ok (.iconst 0, 1) := by decide +kernel
theorem dX13_isAt_8 : decode cX13_isAt 8 = .ok (.iconst 0, 1) := by decide +kernel
theorem dX13_isAt_9 : decode cX13_isAt 9 = .ok (.invokestatic 161, 3) := by decide +kernel
theorem dX13_isAt_12 : decode cX13_isAt 12 = .ok (.invokevirtual 165, 3) := by decide +kernel
theorem dX13_isAt_15 : decode cX13_isAt 15 = .ok (.ireturn, 1) := by decide +kernel
def pX13_isAt (g : MT) (h : CT) (this : Nat) : Option Int32 := tg g this 12 (bd (pX13_isWord g h this (pX13_spelled 97 116 0 0 0 0)) fun x1 => (bz x1 (some x1)))
set_option maxRecDepth 10000 in
set_option maxHeartbeats 4000000 in
theorem pX13_isAt_ok (G : Gx) (dk : Nat) (hK : 1 ≤ dk) {g : MT} {h : CT} {this : Nat} {r0 : Int32} (hf : pX13_isAt g h this = some r0) : Ctr G dk yX13_isAt cX13_isAt 1 (some .boolean) [va_rf (some this)] g h (some (.int r0)) g h := by
  refine Ctr.ofZ (lv := [(0, va_rf (some this))]) (by decide +kernel) (by simp [cat_i, cat_l, cat_d, cat_rf]) rfl fun X Z => ?_
  unfold pX13_isAt at hf
  replace hf := tg_i hf
  obtain ⟨t0, hf⟩ := hf
  refine J_aload_n Z.1 0 dX13_isAt_0 rfl rfl ?_
  refine J_bipush Z.1 (v := 97) (by decide) dX13_isAt_1 ?_
  refine J_bipush Z.1 (v := 116) (by decide) dX13_isAt_3 ?_
  refine J_iconst Z.1 (v := 0) (by decide) dX13_isAt_5 ?_
  refine J_iconst Z.1 (v := 0) (by decide) dX13_isAt_6 ?_
  refine J_iconst Z.1 (v := 0) (by decide) dX13_isAt_7 ?_
  refine J_iconst Z.1 (v := 0) (by decide) dX13_isAt_8 ?_
  refine J_callS (as := [.int 97, .int 116, .int 0, .int 0, .int 0, .int 0]) (rest := [va_rf (some this)]) (sy := [.long (pX13_spelled 97 116 0 0 0 0), va_rf (some this)]) Z.1 dX13_isAt_9 cw_X13_161 (pX13_spelled_ok G (dk - 1) (by omega) g h 97 116 0 0 0 0) (zG Z) rfl (by simp [cat_i, cat_l, cat_d, cat_rf]) (zF Z (by omega)) (zO Z (by omega) (by decide)) (zM _) Z.2.1 Z.2.1 rfl rfl ?_
  replace hf := bd_i hf
  obtain ⟨x1, q2, hf⟩ := hf
  refine J_callV (ci := 11) (as := [.long (pX13_spelled 97 116 0 0 0 0)]) (rest := []) (sy := [.int x1]) Z.1 dX13_isAt_12 cw_X13_165 (pX13_isWord_ok G (dk - 1) (by omega) q2) rfl rfl t0 (zG Z) rfl (by decide) (zF Z (by omega)) (zO Z (by omega) (by decide)) (zM _) Z.2.1 Z.2.1 rfl rfl ?_
  replace hf := bz_i hf
  obtain ⟨z3, hf⟩ := hf
  cases hf
  exact J_zret Z.1 Z.2.2.2.2.2 (z_n z3) dX13_isAt_15
theorem dX13_isBy_0 : decode cX13_isBy 0 = .ok (.aload_n 0, 1) := by decide +kernel
theorem dX13_isBy_1 : decode cX13_isBy 1 = .ok (.bipush 98, 2) := by decide +kernel
theorem dX13_isBy_3 : decode cX13_isBy 3 = .ok (.bipush 121, 2) := by decide +kernel
theorem dX13_isBy_5 : decode cX13_isBy 5 = .ok (.iconst 0, 1) := by decide +kernel
theorem dX13_isBy_6 : decode cX13_isBy 6 = .ok (.iconst 0, 1) := by decide +kernel
theorem dX13_isBy_7 : decode cX13_isBy 7 = .ok (.iconst 0, 1) := by decide +kernel
theorem dX13_isBy_8 : decode cX13_isBy 8 = .ok (.iconst 0, 1) := by decide +kernel
theorem dX13_isBy_9 : decode cX13_isBy 9 = .ok (.invokestatic 161, 3) := by decide +kernel
theorem dX13_isBy_12 : decode cX13_isBy 12 = .ok (.invokevirtual 165, 3) := by decide +kernel
theorem dX13_isBy_15 : decode cX13_isBy 15 = .ok (.ireturn, 1) := by decide +kernel
def pX13_isBy (g : MT) (h : CT) (this : Nat) : Option Int32 := tg g this 12 (bd (pX13_isWord g h this (pX13_spelled 98 121 0 0 0 0)) fun x1 => (bz x1 (some x1)))
set_option maxRecDepth 10000 in
set_option maxHeartbeats 4000000 in
theorem pX13_isBy_ok (G : Gx) (dk : Nat) (hK : 1 ≤ dk) {g : MT} {h : CT} {this : Nat} {r0 : Int32} (hf : pX13_isBy g h this = some r0) : Ctr G dk yX13_isBy cX13_isBy 1 (some .boolean) [va_rf (some this)] g h (some (.int r0)) g h := by
  refine Ctr.ofZ (lv := [(0, va_rf (some this))]) (by decide +kernel) (by simp [cat_i, cat_l, cat_d, cat_rf]) rfl fun X Z => ?_
  unfold pX13_isBy at hf
  replace hf := tg_i hf
  obtain ⟨t0, hf⟩ := hf
  refine J_aload_n Z.1 0 dX13_isBy_0 rfl rfl ?_
  refine J_bipush Z.1 (v := 98) (by decide) dX13_isBy_1 ?_
  refine J_bipush Z.1 (v := 121) (by decide) dX13_isBy_3 ?_
  refine J_iconst Z.1 (v := 0) (by decide) dX13_isBy_5 ?_
  refine J_iconst Z.1 (v := 0) (by decide) dX13_isBy_6 ?_
  refine J_iconst Z.1 (v := 0) (by decide) dX13_isBy_7 ?_
  refine J_iconst Z.1 (v := 0) (by decide) dX13_isBy_8 ?_
  refine J_callS (as := [.int 98, .int 121, .int 0, .int 0, .int 0, .int 0]) (rest := [va_rf (some this)]) (sy := [.long (pX13_spelled 98 121 0 0 0 0), va_rf (some this)]) Z.1 dX13_isBy_9 cw_X13_161 (pX13_spelled_ok G (dk - 1) (by omega) g h 98 121 0 0 0 0) (zG Z) rfl (by simp [cat_i, cat_l, cat_d, cat_rf]) (zF Z (by omega)) (zO Z (by omega) (by decide)) (zM _) Z.2.1 Z.2.1 rfl rfl ?_
  replace hf := bd_i hf
  obtain ⟨x1, q2, hf⟩ := hf
  refine J_callV (ci := 11) (as := [.long (pX13_spelled 98 121 0 0 0 0)]) (rest := []) (sy := [.int x1]) Z.1 dX13_isBy_12 cw_X13_165 (pX13_isWord_ok G (dk - 1) (by omega) q2) rfl rfl t0 (zG Z) rfl (by decide) (zF Z (by omega)) (zO Z (by omega) (by decide)) (zM _) Z.2.1 Z.2.1 rfl rfl ?_
  replace hf := bz_i hf
  obtain ⟨z3, hf⟩ := hf
  cases hf
  exact J_zret Z.1 Z.2.2.2.2.2 (z_n z3) dX13_isBy_15
theorem dX13_isOf_0 : decode cX13_isOf 0 = .ok (.aload_n 0, 1) := by decide +kernel
theorem dX13_isOf_1 : decode cX13_isOf 1 = .ok (.bipush 111, 2) := by decide +kernel
theorem dX13_isOf_3 : decode cX13_isOf 3 = .ok (.bipush 102, 2) := by decide +kernel
theorem dX13_isOf_5 : decode cX13_isOf 5 = .ok (.iconst 0, 1) := by decide +kernel
theorem dX13_isOf_6 : decode cX13_isOf 6 = .ok (.iconst 0, 1) := by decide +kernel
theorem dX13_isOf_7 : decode cX13_isOf 7 = .ok (.iconst 0, 1) := by decide +kernel
theorem dX13_isOf_8 : decode cX13_isOf 8 = .ok (.iconst 0, 1) := by decide +kernel
theorem dX13_isOf_9 : decode cX13_isOf 9 = .ok (.invokestatic 161, 3) := by decide +kernel
theorem dX13_isOf_12 : decode cX13_isOf 12 = .ok (.invokevirtual 165, 3) := by decide +kernel
theorem dX13_isOf_15 : decode cX13_isOf 15 = .ok (.ireturn, 1) := by decide +kernel
def pX13_isOf (g : MT) (h : CT) (this : Nat) : Option Int32 := tg g this 12 (bd (pX13_isWord g h this (pX13_spelled 111 102 0 0 0 0)) fun x1 => (bz x1 (some x1)))
set_option maxRecDepth 10000 in
set_option maxHeartbeats 4000000 in
theorem pX13_isOf_ok (G : Gx) (dk : Nat) (hK : 1 ≤ dk) {g : MT} {h : CT} {this : Nat} {r0 : Int32} (hf : pX13_isOf g h this = some r0) : Ctr G dk yX13_isOf cX13_isOf 1 (some .boolean) [va_rf (some this)] g h (some (.int r0)) g h := by
  refine Ctr.ofZ (lv := [(0, va_rf (some this))]) (by decide +kernel) (by simp [cat_i, cat_l, cat_d, cat_rf]) rfl fun X Z => ?_
  unfold pX13_isOf at hf
  replace hf := tg_i hf
  obtain ⟨t0, hf⟩ := hf
  refine J_aload_n Z.1 0 dX13_isOf_0 rfl rfl ?_
  refine J_bipush Z.1 (v := 111) (by decide) dX13_isOf_1 ?_
  refine J_bipush Z.1 (v := 102) (by decide) dX13_isOf_3 ?_
  refine J_iconst Z.1 (v := 0) (by decide) dX13_isOf_5 ?_
  refine J_iconst Z.1 (v := 0) (by decide) dX13_isOf_6 ?_
  refine J_iconst Z.1 (v := 0) (by decide) dX13_isOf_7 ?_
  refine J_iconst Z.1 (v := 0) (by decide) dX13_isOf_8 ?_
  refine J_callS (as := [.int 111, .int 102, .int 0, .int 0, .int 0, .int 0]) (rest := [va_rf (some this)]) (sy := [.long (pX13_spelled 111 102 0 0 0 0), va_rf (some this)]) Z.1 dX13_isOf_9 cw_X13_161 (pX13_spelled_ok G (dk - 1) (by omega) g h 111 102 0 0 0 0) (zG Z) rfl (by simp [cat_i, cat_l, cat_d, cat_rf]) (zF Z (by omega)) (zO Z (by omega) (by decide)) (zM _) Z.2.1 Z.2.1 rfl rfl ?_
  replace hf := bd_i hf
  obtain ⟨x1, q2, hf⟩ := hf
  refine J_callV (ci := 11) (as := [.long (pX13_spelled 111 102 0 0 0 0)]) (rest := []) (sy := [.int x1]) Z.1 dX13_isOf_12 cw_X13_165 (pX13_isWord_ok G (dk - 1) (by omega) q2) rfl rfl t0 (zG Z) rfl (by decide) (zF Z (by omega)) (zO Z (by omega) (by decide)) (zM _) Z.2.1 Z.2.1 rfl rfl ?_
  replace hf := bz_i hf
  obtain ⟨z3, hf⟩ := hf
  cases hf
  exact J_zret Z.1 Z.2.2.2.2.2 (z_n z3) dX13_isOf_15
theorem dX13_isMasked_0 : decode cX13_isMasked 0 = .ok (.aload_n 0, 1) := by decide +kernel
theorem dX13_isMasked_1 : decode cX13_isMasked 1 = .ok (.bipush 109, 2) := by decide +kernel
theorem dX13_isMasked_3 : decode cX13_isMasked 3 = .ok (.bipush 97, 2) := by decide +kernel
theorem dX13_isMasked_5 : decode cX13_isMasked 5 = .ok (.bipush 115, 2) := by decide +kernel
theorem dX13_isMasked_7 : decode cX13_isMasked 7 = .ok (.bipush 107, 2) := by decide +kernel
theorem dX13_isMasked_9 : decode cX13_isMasked 9 = .ok (.bipush 101, 2) := by decide +kernel
theorem dX13_isMasked_11 : decode cX13_isMasked 11 = .ok (.bipush 100, 2) := by decide +kernel
theorem dX13_isMasked_13 : decode cX13_isMasked 13 = .ok (.invokestatic 161, 3) := by decide +kernel
theorem dX13_isMasked_16 : decode cX13_isMasked 16 = .ok (.invokevirtual 165, 3) := by decide +kernel
theorem dX13_isMasked_19 : decode cX13_isMasked 19 = .ok (.ireturn, 1) := by decide +kernel
def pX13_isMasked (g : MT) (h : CT) (this : Nat) : Option Int32 := tg g this 12 (bd (pX13_isWord g h this (pX13_spelled 109 97 115 107 101 100)) fun x1 => (bz x1 (some x1)))
set_option maxRecDepth 10000 in
set_option maxHeartbeats 4000000 in
theorem pX13_isMasked_ok (G : Gx) (dk : Nat) (hK : 1 ≤ dk) {g : MT} {h : CT} {this : Nat} {r0 : Int32} (hf : pX13_isMasked g h this = some r0) : Ctr G dk yX13_isMasked cX13_isMasked 1 (some .boolean) [va_rf (some this)] g h (some (.int r0)) g h := by
  refine Ctr.ofZ (lv := [(0, va_rf (some this))]) (by decide +kernel) (by simp [cat_i, cat_l, cat_d, cat_rf]) rfl fun X Z => ?_
  unfold pX13_isMasked at hf
  replace hf := tg_i hf
  obtain ⟨t0, hf⟩ := hf
  refine J_aload_n Z.1 0 dX13_isMasked_0 rfl rfl ?_
  refine J_bipush Z.1 (v := 109) (by decide) dX13_isMasked_1 ?_
  refine J_bipush Z.1 (v := 97) (by decide) dX13_isMasked_3 ?_
  refine J_bipush Z.1 (v := 115) (by decide) dX13_isMasked_5 ?_
  refine J_bipush Z.1 (v := 107) (by decide) dX13_isMasked_7 ?_
  refine J_bipush Z.1 (v := 101) (by decide) dX13_isMasked_9 ?_
  refine J_bipush Z.1 (v := 100) (by decide) dX13_isMasked_11 ?_
  refine J_callS (as := [.int 109, .int 97, .int 115, .int 107, .int 101, .int 100]) (rest := [va_rf (some this)]) (sy := [.long (pX13_spelled 109 97 115 107 101 100), va_rf (some this)]) Z.1 dX13_isMasked_13 cw_X13_161 (pX13_spelled_ok G (dk - 1) (by omega) g h 109 97 115 107 101 100) (zG Z) rfl (by simp [cat_i, cat_l, cat_d, cat_rf]) (zF Z (by omega)) (zO Z (by omega) (by decide)) (zM _) Z.2.1 Z.2.1 rfl rfl ?_
  replace hf := bd_i hf
  obtain ⟨x1, q2, hf⟩ := hf
  refine J_callV (ci := 11) (as := [.long (pX13_spelled 109 97 115 107 101 100)]) (rest := []) (sy := [.int x1]) Z.1 dX13_isMasked_16 cw_X13_165 (pX13_isWord_ok G (dk - 1) (by omega) q2) rfl rfl t0 (zG Z) rfl (by decide) (zF Z (by omega)) (zO Z (by omega) (by decide)) (zM _) Z.2.1 Z.2.1 rfl rfl ?_
  replace hf := bz_i hf
  obtain ⟨z3, hf⟩ := hf
  cases hf
  exact J_zret Z.1 Z.2.2.2.2.2 (z_n z3) dX13_isMasked_19
theorem dX13_isEnd_0 : decode cX13_isEnd 0 = .ok (.aload_n 0, 1) := by decide +kernel
theorem dX13_isEnd_1 : decode cX13_isEnd 1 = .ok (.bipush 101, 2) := by decide +kernel
theorem dX13_isEnd_3 : decode cX13_isEnd 3 = .ok (.bipush 110, 2) := by decide +kernel
theorem dX13_isEnd_5 : decode cX13_isEnd 5 = .ok (.bipush 100, 2) := by decide +kernel
theorem dX13_isEnd_7 : decode cX13_isEnd 7 = .ok (.iconst 0, 1) := by decide +kernel
theorem dX13_isEnd_8 : decode cX13_isEnd 8 = .ok (.iconst 0, 1) := by decide +kernel
theorem dX13_isEnd_9 : decode cX13_isEnd 9 = .ok (.iconst 0, 1) := by decide +kernel
theorem dX13_isEnd_10 : decode cX13_isEnd 10 = .ok (.invokestatic 161, 3) := by decide +kernel
theorem dX13_isEnd_13 : decode cX13_isEnd 13 = .ok (.invokevirtual 165, 3) := by decide +kernel
theorem dX13_isEnd_16 : decode cX13_isEnd 16 = .ok (.ireturn, 1) := by decide +kernel
def pX13_isEnd (g : MT) (h : CT) (this : Nat) : Option Int32 := tg g this 12 (bd (pX13_isWord g h this (pX13_spelled 101 110 100 0 0 0)) fun x1 => (bz x1 (some x1)))
set_option maxRecDepth 10000 in
set_option maxHeartbeats 4000000 in
theorem pX13_isEnd_ok (G : Gx) (dk : Nat) (hK : 1 ≤ dk) {g : MT} {h : CT} {this : Nat} {r0 : Int32} (hf : pX13_isEnd g h this = some r0) : Ctr G dk yX13_isEnd cX13_isEnd 1 (some .boolean) [va_rf (some this)] g h (some (.int r0)) g h := by
  refine Ctr.ofZ (lv := [(0, va_rf (some this))]) (by decide +kernel) (by simp [cat_i, cat_l, cat_d, cat_rf]) rfl fun X Z => ?_
  unfold pX13_isEnd at hf
  replace hf := tg_i hf
  obtain ⟨t0, hf⟩ := hf
  refine J_aload_n Z.1 0 dX13_isEnd_0 rfl rfl ?_
  refine J_bipush Z.1 (v := 101) (by decide) dX13_isEnd_1 ?_
  refine J_bipush Z.1 (v := 110) (by decide) dX13_isEnd_3 ?_
  refine J_bipush Z.1 (v := 100) (by decide) dX13_isEnd_5 ?_
  refine J_iconst Z.1 (v := 0) (by decide) dX13_isEnd_7 ?_
  refine J_iconst Z.1 (v := 0) (by decide) dX13_isEnd_8 ?_
  refine J_iconst Z.1 (v := 0) (by decide) dX13_isEnd_9 ?_
  refine J_callS (as := [.int 101, .int 110, .int 100, .int 0, .int 0, .int 0]) (rest := [va_rf (some this)]) (sy := [.long (pX13_spelled 101 110 100 0 0 0), va_rf (some this)]) Z.1 dX13_isEnd_10 cw_X13_161 (pX13_spelled_ok G (dk - 1) (by omega) g h 101 110 100 0 0 0) (zG Z) rfl (by simp [cat_i, cat_l, cat_d, cat_rf]) (zF Z (by omega)) (zO Z (by omega) (by decide)) (zM _) Z.2.1 Z.2.1 rfl rfl ?_
  replace hf := bd_i hf
  obtain ⟨x1, q2, hf⟩ := hf
  refine J_callV (ci := 11) (as := [.long (pX13_spelled 101 110 100 0 0 0)]) (rest := []) (sy := [.int x1]) Z.1 dX13_isEnd_13 cw_X13_165 (pX13_isWord_ok G (dk - 1) (by omega) q2) rfl rfl t0 (zG Z) rfl (by decide) (zF Z (by omega)) (zO Z (by omega) (by decide)) (zM _) Z.2.1 Z.2.1 rfl rfl ?_
  replace hf := bz_i hf
  obtain ⟨z3, hf⟩ := hf
  cases hf
  exact J_zret Z.1 Z.2.2.2.2.2 (z_n z3) dX13_isEnd_16
theorem dX13_lettered_0 : decode cX13_lettered 0 = .ok (.aload_n 0, 1) := by decide +kernel
theorem dX13_lettered_1 : decode cX13_lettered 1 = .ok (.getfield 142, 3) := by decide +kernel
theorem dX13_lettered_4 : decode cX13_lettered 4 = .ok (.iconst 1, 1) := by decide +kernel
theorem dX13_lettered_5 : decode cX13_lettered 5 = .ok (.if_icmp .ne 28, 3) := by decide +kernel
theorem dX13_lettered_8 : decode cX13_lettered 8 = .ok (.aload_n 0, 1) := by decide +kernel
theorem dX13_lettered_9 : decode cX13_lettered 9 = .ok (.getfield 133, 3) := by decide +kernel
theorem dX13_lettered_12 : decode cX13_lettered 12 = .ok (.aload_n 0, 1) := by decide +kernel
theorem dX13_lettered_13 : decode cX13_lettered 13 = .ok (.getfield 136, 3) := by decide +kernel
theorem dX13_lettered_16 : decode cX13_lettered 16 = .ok (.isub, 1) := by decide +kernel
theorem dX13_lettered_17 : decode cX13_lettered 17 = .ok (.iconst 2, 1) := by decide +kernel
theorem dX13_lettered_18 : decode cX13_lettered 18 = .ok (.if_icmp .ne 15, 3) := by decide +kernel
theorem dX13_lettered_21 : decode cX13_lettered 21 = .ok (.aload_n 0, 1) := by decide +kernel
theorem dX13_lettered_22 : decode cX13_lettered 22 = .ok (.aload_n 0, 1) := by decide +kernel
theorem dX13_lettered_23 : decode cX13_lettered 23 = .ok (.getfield 136, 3) := by decide +kernel
theorem dX13_lettered_26 : decode cX13_lettered 26 = .ok (.invokevirtual 139, 3) := by decide +kernel
theorem dX13_lettered_29 : decode cX13_lettered 29 = .ok (.iload_n 1, 1) := by decide +kernel
theorem dX13_lettered_30 : decode cX13_lettered 30 = .ok (.if_icmp .eq 5, 3) := by decide +kernel
theorem dX13_lettered_33 : decode cX13_lettered 33 = .ok (.iconst (-1), 1) := by decide +kernel
theorem dX13_lettered_34 : decode cX13_lettered 34 = .ok (.ireturn, 1) := by decide +kernel
theorem dX13_lettered_35 : decode cX13_lettered 35 = .ok (.aload_n 0, 1) := by decide +kernel
theorem dX13_lettered_36 : decode cX13_lettered 36 = .ok (.aload_n 0, 1) := by decide +kernel
theorem dX13_lettered_37 : decode cX13_lettered 37 = .ok (.getfield 136, 3) := by decide +kernel
theorem dX13_lettered_40 : decode cX13_lettered 40 = .ok (.iconst 1, 1) := by decide +kernel
theorem dX13_lettered_41 : decode cX13_lettered 41 = .ok (.iadd, 1) := by decide +kernel
theorem dX13_lettered_42 : decode cX13_lettered 42 = .ok (.invokevirtual 139, 3) := by decide +kernel
theorem dX13_lettered_45 : decode cX13_lettered 45 = .ok (.bipush 97, 2) := by decide +kernel
theorem dX13_lettered_47 : decode cX13_lettered 47 = .ok (.isub, 1) := by decide +kernel
theorem dX13_lettered_48 : decode cX13_lettered 48 = .ok (.istore_n 3, 1) := by decide +kernel
theorem dX13_lettered_49 : decode cX13_lettered 49 = .ok (.iload_n 3, 1) := by decide +kernel
theorem dX13_lettered_50 : decode cX13_lettered 50 = .ok (.iload_n 2, 1) := by decide +kernel
theorem dX13_lettered_51 : decode cX13_lettered 51 = .ok (.if_icmp .ge 7, 3) := by decide +kernel
theorem dX13_lettered_54 : decode cX13_lettered 54 = .ok (.iload_n 3, 1) := by decide +kernel
theorem dX13_lettered_55 : decode cX13_lettered 55 = .ok (.goto 4, 3) := by decide +kernel
theorem dX13_lettered_58 : decode cX13_lettered 58 = .ok (.iconst (-1), 1) := by decide +kernel
theorem dX13_lettered_59 : decode cX13_lettered 59 = .ok (.ireturn, 1) := by decide +kernel
def pX13_lettered (g : MT) (h : CT) (this : Nat) (p1 : Int32) (p2 : Int32) : Option Int32 := tg g this 12 (if (hI h this 14) = 1 then if ((hI h this 16) - (hI h this 15)) = 2 then bd (pX13_look2 g h this (hI h this 15)) fun x3 => (if x3 = p1 then bd (pX13_look2 g h this ((hI h this 15) + 1)) fun x6 => (lt (x6 - 97) fun x8 => (if p2 ≤ x8 then some (-1) else some x8)) else some (-1)) else some (-1) else some (-1))
set_option maxRecDepth 10000 in
set_option maxHeartbeats 4000000 in
theorem pX13_lettered_ok (G : Gx) (dk : Nat) (hK : 1 ≤ dk) {g : MT} {h : CT} {this : Nat} {p1 : Int32} {p2 : Int32} {r0 : Int32} (hf : pX13_lettered g h this p1 p2 = some r0) : Ctr G dk yX13_lettered cX13_lettered 4 (some .int) [va_rf (some this), .int p1, .int p2] g h (some (.int r0)) g h := by
  refine Ctr.ofZ (lv := [(0, va_rf (some this)), (1, .int p1), (2, .int p2)]) (by decide +kernel) (by simp [cat_i, cat_l, cat_d, cat_rf]) rfl fun X Z => ?_
  unfold pX13_lettered at hf
  replace hf := tg_i hf
  obtain ⟨t0, hf⟩ := hf
  refine J_aload_n Z.1 0 dX13_lettered_0 rfl rfl ?_
  refine J_get (v := .int (hI h this 14)) Z.1 dX13_lettered_1 fl_X13_142 t0 rfl ?_
  refine J_iconst Z.1 (v := 1) (by decide) dX13_lettered_4 ?_
  refine J_icmp_ne Z.1 33 dX13_lettered_5 (by decide) (fun c1 => ?_) (fun c1 => ?_)
  · rw [if_neg c1] at hf
    refine J_iconst Z.1 (v := (-1)) (by decide) dX13_lettered_33 ?_
    cases hf
    exact J_iret Z.1 Z.2.2.2.2.2 dX13_lettered_34
  · rw [if_pos c1] at hf
    refine J_aload_n Z.1 0 dX13_lettered_8 rfl rfl ?_
    refine J_get (v := .int (hI h this 16)) Z.1 dX13_lettered_9 fl_X13_133 t0 rfl ?_
    refine J_aload_n Z.1 0 dX13_lettered_12 rfl rfl ?_
    refine J_get (v := .int (hI h this 15)) Z.1 dX13_lettered_13 fl_X13_136 t0 rfl ?_
    refine J_isub Z.1 dX13_lettered_16 ?_
    refine J_iconst Z.1 (v := 2) (by decide) dX13_lettered_17 ?_
    refine J_icmp_ne Z.1 33 dX13_lettered_18 (by decide) (fun c2 => ?_) (fun c2 => ?_)
    · rw [if_neg c2] at hf
      refine J_iconst Z.1 (v := (-1)) (by decide) dX13_lettered_33 ?_
      cases hf
      exact J_iret Z.1 Z.2.2.2.2.2 dX13_lettered_34
    · rw [if_pos c2] at hf
      refine J_aload_n Z.1 0 dX13_lettered_21 rfl rfl ?_
      refine J_aload_n Z.1 0 dX13_lettered_22 rfl rfl ?_
      refine J_get (v := .int (hI h this 15)) Z.1 dX13_lettered_23 fl_X13_136 t0 rfl ?_
      replace hf := bd_i hf
      obtain ⟨x3, q4, hf⟩ := hf
      refine J_callV (ci := 11) (as := [.int (hI h this 15)]) (rest := []) (sy := [.int x3]) Z.1 dX13_lettered_26 cw_X13_139 (pX13_look2_ok G (dk - 1) (by omega) q4) rfl rfl t0 (zG Z) rfl (by decide) (zF Z (by omega)) (zO Z (by omega) (by decide)) (zM _) Z.2.1 Z.2.1 rfl rfl ?_
      refine J_iload_n Z.1 1 dX13_lettered_29 rfl rfl ?_
      refine J_icmp_eq Z.1 35 dX13_lettered_30 (by decide) (fun c5 => ?_) (fun c5 => ?_)
      · rw [if_pos c5] at hf
        refine J_aload_n Z.1 0 dX13_lettered_35 rfl rfl ?_
        refine J_aload_n Z.1 0 dX13_lettered_36 rfl rfl ?_
        refine J_get (v := .int (hI h this 15)) Z.1 dX13_lettered_37 fl_X13_136 t0 rfl ?_
        refine J_iconst Z.1 (v := 1) (by decide) dX13_lettered_40 ?_
        refine J_iadd Z.1 dX13_lettered_41 ?_
        replace hf := bd_i hf
        obtain ⟨x6, q7, hf⟩ := hf
        refine J_callV (ci := 11) (as := [.int ((hI h this 15) + 1)]) (rest := []) (sy := [.int x6]) Z.1 dX13_lettered_42 cw_X13_139 (pX13_look2_ok G (dk - 1) (by omega) q7) rfl rfl t0 (zG Z) rfl (by decide) (zF Z (by omega)) (zO Z (by omega) (by decide)) (zM _) Z.2.1 Z.2.1 rfl rfl ?_
        refine J_bipush Z.1 (v := 97) (by decide) dX13_lettered_45 ?_
        refine J_isub Z.1 dX13_lettered_47 ?_
        refine J_ti (fun x8 ex8 => ?_)
        replace hf := lt_i hf x8 ex8
        refine J_istore_n Z.1 (lv2 := [(3, .int x8), (0, va_rf (some this)), (1, .int p1), (2, .int p2)]) dX13_lettered_48 rfl (zL Z (by decide)) rfl ?_
        refine J_iload_n Z.1 0 dX13_lettered_49 rfl rfl ?_
        refine J_iload_n Z.1 3 dX13_lettered_50 rfl rfl ?_
        refine J_icmp_ge Z.1 58 dX13_lettered_51 (by decide) (fun c9 => ?_) (fun c9 => ?_)
        · rw [if_pos c9] at hf
          refine J_iconst Z.1 (v := (-1)) (by decide) dX13_lettered_58 ?_
          cases hf
          exact J_iret Z.1 Z.2.2.2.2.2 dX13_lettered_59
        · rw [if_neg c9] at hf
          refine J_iload_n Z.1 0 dX13_lettered_54 rfl rfl ?_
          refine J_goto Z.1 59 dX13_lettered_55 (by decide) ?_
          cases hf
          exact J_iret Z.1 Z.2.2.2.2.2 dX13_lettered_59
      · rw [if_neg c5] at hf
        refine J_iconst Z.1 (v := (-1)) (by decide) dX13_lettered_33 ?_
        cases hf
        exact J_iret Z.1 Z.2.2.2.2.2 dX13_lettered_34
