/-! written by wip/whole/gen.py out of the printed bytecode -/
theorem dX13_whyNotAll_0 : decode cX13_whyNotAll 0 = .ok (.aload_n 0, 1) := by decide +kernel
theorem dX13_whyNotAll_1 : decode cX13_whyNotAll 1 = .ok (.iload_n 2, 1) := by decide +kernel
theorem dX13_whyNotAll_2 : decode cX13_whyNotAll 2 = .ok (.invokevirtual 319, 3) := by decide +kernel
theorem dX13_whyNotAll_5 : decode cX13_whyNotAll 5 = .ok (.ifCond .ne 5, 3) := by decide +kernel
theorem dX13_whyNotAll_8 : decode cX13_whyNotAll 8 = .ok (.iconst 1, 1) := by decide +kernel
theorem dX13_whyNotAll_9 : decode cX13_whyNotAll 9 = .ok (.ireturn, 1) := by decide +kernel
theorem dX13_whyNotAll_10 : decode cX13_whyNotAll 10 = .ok (.iload_n 3, 1) := by decide +kernel
theorem dX13_whyNotAll_11 : decode cX13_whyNotAll 11 = .ok (.ifCond .le 24, 3) := by decide +kernel
theorem dX13_whyNotAll_14 : decode cX13_whyNotAll 14 = .ok (.iload_n 1, 1) := by decide +kernel
theorem dX13_whyNotAll_15 : decode cX13_whyNotAll 15 = .ok (.invokestatic 297, 3) := by decide +kernel
theorem dX13_whyNotAll_18 : decode cX13_whyNotAll 18 = .ok (.ifCond .eq 15, 3) := by decide +kernel
theorem dX13_whyNotAll_21 : decode cX13_whyNotAll 21 = .ok (.iload_n 1, 1) := by decide +kernel
theorem dX13_whyNotAll_22 : decode cX13_whyNotAll 22 = .ok (.i2l, 1) := by decide +kernel
theorem dX13_whyNotAll_23 : decode cX13_whyNotAll 23 = .ok (.iload_n 3, 1) := by decide +kernel
theorem dX13_whyNotAll_24 : decode cX13_whyNotAll 24 = .ok (.i2l, 1) := by decide +kernel
theorem dX13_whyNotAll_25 : decode cX13_whyNotAll 25 = .ok (.ladd, 1) := by decide +kernel
theorem dX13_whyNotAll_26 : decode cX13_whyNotAll 26 = .ok (.ldc2_w 322, 3) := by decide +kernel
theorem dX13_whyNotAll_29 : decode cX13_whyNotAll 29 = .ok (.lcmp, 1) := by decide +kernel
theorem dX13_whyNotAll_30 : decode cX13_whyNotAll 30 = .ok (.ifCond .le 5, 3) := by decide +kernel
theorem dX13_whyNotAll_33 : decode cX13_whyNotAll 33 = .ok (.iconst 2, 1) := by decide +kernel
theorem dX13_whyNotAll_34 : decode cX13_whyNotAll 34 = .ok (.ireturn, 1) := by decide +kernel
theorem dX13_whyNotAll_35 : decode cX13_whyNotAll 35 = .ok (.aload_n 0, 1) := by decide +kernel
theorem dX13_whyNotAll_36 : decode cX13_whyNotAll 36 = .ok (.getfield 13, 3) := by decide +kernel
theorem dX13_whyNotAll_39 : decode cX13_whyNotAll 39 = .ok (.iload_n 2, 1) := by decide +kernel
theorem dX13_whyNotAll_40 : decode cX13_whyNotAll 40 = .ok (.iaload, 1) := by decide +kernel
theorem dX13_whyNotAll_41 : decode cX13_whyNotAll 41 = .ok (.ifCond .ge 5, 3) := by decide +kernel
theorem dX13_whyNotAll_44 : decode cX13_whyNotAll 44 = .ok (.iconst 3, 1) := by decide +kernel
theorem dX13_whyNotAll_45 : decode cX13_whyNotAll 45 = .ok (.ireturn, 1) := by decide +kernel
theorem dX13_whyNotAll_46 : decode cX13_whyNotAll 46 = .ok (.aload_n 0, 1) := by decide +kernel
theorem dX13_whyNotAll_47 : decode cX13_whyNotAll 47 = .ok (.getfield 13, 3) := by decide +kernel
theorem dX13_whyNotAll_50 : decode cX13_whyNotAll 50 = .ok (.iload_n 2, 1) := by decide +kernel
theorem dX13_whyNotAll_51 : decode cX13_whyNotAll 51 = .ok (.iaload, 1) := by decide +kernel
theorem dX13_whyNotAll_52 : decode cX13_whyNotAll 52 = .ok (.iload_n 3, 1) := by decide +kernel
theorem dX13_whyNotAll_53 : decode cX13_whyNotAll 53 = .ok (.if_icmp .ge 5, 3) := by decide +kernel
theorem dX13_whyNotAll_56 : decode cX13_whyNotAll 56 = .ok (.iconst 4, 1) := by decide +kernel
theorem dX13_whyNotAll_57 : decode cX13_whyNotAll 57 = .ok (.ireturn, 1) := by decide +kernel
theorem dX13_whyNotAll_58 : decode cX13_whyNotAll 58 = .ok (.iload_n 3, 1) := by decide +kernel
theorem dX13_whyNotAll_59 : decode cX13_whyNotAll 59 = .ok (.i2l, 1) := by decide +kernel
theorem dX13_whyNotAll_60 : decode cX13_whyNotAll 60 = .ok (.lconst 0, 1) := by decide +kernel
theorem dX13_whyNotAll_61 : decode cX13_whyNotAll 61 = .ok (.ldc2_w 324, 3) := by decide +kernel
theorem dX13_whyNotAll_64 : decode cX13_whyNotAll 64 = .ok (.invokestatic 104, 3) := by decide +kernel
theorem dX13_whyNotAll_67 : decode cX13_whyNotAll 67 = .ok (.ifCond .eq 7, 3) := by decide +kernel
theorem dX13_whyNotAll_70 : decode cX13_whyNotAll 70 = .ok (.iconst 0, 1) := by decide +kernel
theorem dX13_whyNotAll_71 : decode cX13_whyNotAll 71 = .ok (.goto 4, 3) := by decide +kernel
theorem dX13_whyNotAll_74 : decode cX13_whyNotAll 74 = .ok (.iconst 5, 1) := by decide +kernel
theorem dX13_whyNotAll_75 : decode cX13_whyNotAll 75 = .ok (.ireturn, 1) := by decide +kernel
def pX13_whyNotAll_b35 (g : MT) (h : CT) (this : Nat) (p1 : Int32) (p2 : Int32) (p3 : Int32)  : Option Int32 := lt (hR h this 5) fun r1 => (nn r1 fun a1 => (tg g a1 20 (ix (gL g a1) p2 (if 0 ≤ (hI h a1 (Int32.toNatClampNeg p2)) then lt (hR h this 5) fun r5 => (nn r5 fun a5 => (tg g a5 20 (ix (gL g a5) p2 (if p3 ≤ (hI h a5 (Int32.toNatClampNeg p2)) then if (pX13_isIn (Int32.toInt64 p3) 0 60) = 0 then some 5 else some 0 else some 4)))) else some 3))))
set_option maxRecDepth 10000 in
set_option maxHeartbeats 4000000 in
theorem pX13_whyNotAll_b35_ok {X : Cx} {G : Gx} {dk : Nat} {g : MT} {r0 : Int32} {h : CT} {this : Nat} {p1 : Int32} {p2 : Int32} {p3 : Int32} (Z : Zx X G cX13_whyNotAll RX13 4 dk (some .int) (some (.int r0)) g h) (hK : 2 ≤ dk) (t0 : gT g this = 12)  (hf : pX13_whyNotAll_b35 g h this p1 p2 p3 = some r0) : J X g h 35 [(0, va_rf (some this)), (2, .int p2), (3, .int p3)] [] := by
  unfold pX13_whyNotAll_b35 at hf
  refine J_aload_n Z.1 0 dX13_whyNotAll_35 rfl rfl ?_
  refine J_get (v := va_rf (hR h this 5)) Z.1 dX13_whyNotAll_36 fl_X13_13 t0 rfl ?_
  refine J_tr (fun r1 er1 => ?_)
  replace hf := lt_i hf r1 er1
  refine J_iload_n Z.1 1 dX13_whyNotAll_39 rfl rfl ?_
  replace hf := nn_i hf
  obtain ⟨a1, rfl, hf⟩ := hf
  replace hf := tg_i hf
  obtain ⟨t2, hf⟩ := hf
  replace hf := ix_i hf
  obtain ⟨i3, hf⟩ := hf
  refine J_iaload Z.1 dX13_whyNotAll_40 t2 i3 ?_
  refine J_if_ge Z.1 46 dX13_whyNotAll_41 (by decide) (fun c4 => ?_) (fun c4 => ?_)
  · rw [if_pos c4] at hf
    refine J_aload_n Z.1 0 dX13_whyNotAll_46 rfl rfl ?_
    refine J_get (v := va_rf (hR h this 5)) Z.1 dX13_whyNotAll_47 fl_X13_13 t0 rfl ?_
    refine J_tr (fun r5 er5 => ?_)
    replace hf := lt_i hf r5 er5
    refine J_iload_n Z.1 1 dX13_whyNotAll_50 rfl rfl ?_
    replace hf := nn_i hf
    obtain ⟨a5, rfl, hf⟩ := hf
    replace hf := tg_i hf
    obtain ⟨t6, hf⟩ := hf
    replace hf := ix_i hf
    obtain ⟨i7, hf⟩ := hf
    refine J_iaload Z.1 dX13_whyNotAll_51 t6 i7 ?_
    refine J_iload_n Z.1 2 dX13_whyNotAll_52 rfl rfl ?_
    refine J_icmp_ge Z.1 58 dX13_whyNotAll_53 (by decide) (fun c8 => ?_) (fun c8 => ?_)
    · rw [if_pos c8] at hf
      refine J_iload_n Z.1 2 dX13_whyNotAll_58 rfl rfl ?_
      refine J_i2l Z.1 dX13_whyNotAll_59 ?_
      refine J_lconst Z.1 (v := 0) (by decide) dX13_whyNotAll_60 ?_
      refine J_ldc2 Z.1 q_1842 dX13_whyNotAll_61 ?_
      refine J_callS (as := [.long (Int32.toInt64 p3), .long 0, .long 60]) (rest := []) (sy := [.int (pX13_isIn (Int32.toInt64 p3) 0 60)]) Z.1 dX13_whyNotAll_64 cw_X13_104 (pX13_isIn_ok G (dk - 1) (by omega) g h (Int32.toInt64 p3) 0 60) (zG Z) rfl (by decide) (zF Z (by omega)) (zO Z (by omega) (by decide)) (zM _) Z.2.1 Z.2.1 rfl rfl ?_
      refine J_if_eq Z.1 74 dX13_whyNotAll_67 (by decide) (fun c9 => ?_) (fun c9 => ?_)
      · rw [if_pos c9] at hf
        refine J_iconst Z.1 (v := 5) (by decide) dX13_whyNotAll_74 ?_
        cases hf
        exact J_iret Z.1 Z.2.2.2.2.2 dX13_whyNotAll_75
      · rw [if_neg c9] at hf
        refine J_iconst Z.1 (v := 0) (by decide) dX13_whyNotAll_70 ?_
        refine J_goto Z.1 75 dX13_whyNotAll_71 (by decide) ?_
        cases hf
        exact J_iret Z.1 Z.2.2.2.2.2 dX13_whyNotAll_75
    · rw [if_neg c8] at hf
      refine J_iconst Z.1 (v := 4) (by decide) dX13_whyNotAll_56 ?_
      cases hf
      exact J_iret Z.1 Z.2.2.2.2.2 dX13_whyNotAll_57
  · rw [if_neg c4] at hf
    refine J_iconst Z.1 (v := 3) (by decide) dX13_whyNotAll_44 ?_
    cases hf
    exact J_iret Z.1 Z.2.2.2.2.2 dX13_whyNotAll_45
def pX13_whyNotAll (g : MT) (h : CT) (this : Nat) (p1 : Int32) (p2 : Int32) (p3 : Int32) : Option Int32 := tg g this 12 (if (pX13_isTray this p2) = 0 then some 1 else if p3 ≤ 0 then pX13_whyNotAll_b35 g h this p1 p2 p3   else if (pX13_isWordAt p1) = 0 then some 2 else if (lg_cmp ((Int32.toInt64 p1) + (Int32.toInt64 p3)) 64) ≤ 0 then pX13_whyNotAll_b35 g h this p1 p2 p3   else some 2)
set_option maxRecDepth 10000 in
set_option maxHeartbeats 4000000 in
theorem pX13_whyNotAll_ok (G : Gx) (dk : Nat) (hK : 2 ≤ dk) {g : MT} {h : CT} {this : Nat} {p1 : Int32} {p2 : Int32} {p3 : Int32} {r0 : Int32} (hf : pX13_whyNotAll g h this p1 p2 p3 = some r0) : Ctr G dk yX13_whyNotAll cX13_whyNotAll 4 (some .int) [va_rf (some this), .int p1, .int p2, .int p3] g h (some (.int r0)) g h := by
  refine Ctr.ofZ (lv := [(0, va_rf (some this)), (1, .int p1), (2, .int p2), (3, .int p3)]) (by decide +kernel) (by simp [cat_i, cat_l, cat_d, cat_rf]) rfl fun X Z => ?_
  unfold pX13_whyNotAll at hf
  replace hf := tg_i hf
  obtain ⟨t0, hf⟩ := hf
  refine J_aload_n Z.1 0 dX13_whyNotAll_0 rfl rfl ?_
  refine J_iload_n Z.1 2 dX13_whyNotAll_1 rfl rfl ?_
  refine J_callV (ci := 11) (as := [.int p2]) (rest := []) (sy := [.int (pX13_isTray this p2)]) Z.1 dX13_whyNotAll_2 cw_X13_319 (pX13_isTray_ok G (dk - 1) (by omega) g h this p2) rfl rfl t0 (zG Z) rfl (by decide) (zF Z (by omega)) (zO Z (by omega) (by decide)) (zM _) Z.2.1 Z.2.1 rfl rfl ?_
  refine J_if_ne Z.1 10 dX13_whyNotAll_5 (by decide) (fun c1 => ?_) (fun c1 => ?_)
  · rw [if_neg c1] at hf
    refine J_iload_n Z.1 3 dX13_whyNotAll_10 rfl rfl ?_
    refine J_if_le Z.1 35 dX13_whyNotAll_11 (by decide) (fun c2 => ?_) (fun c2 => ?_)
    · rw [if_pos c2] at hf
      refine J_lv [0, 2, 3] rfl ?_
      exact pX13_whyNotAll_b35_ok Z hK t0   hf
    · rw [if_neg c2] at hf
      refine J_iload_n Z.1 1 dX13_whyNotAll_14 rfl rfl ?_
      refine J_callS (as := [.int p1]) (rest := []) (sy := [.int (pX13_isWordAt p1)]) Z.1 dX13_whyNotAll_15 cw_X13_297 (pX13_isWordAt_ok G (dk - 1) (by omega) g h p1) (zG Z) rfl (by decide) (zF Z (by omega)) (zO Z (by omega) (by decide)) (zM _) Z.2.1 Z.2.1 rfl rfl ?_
      refine J_if_eq Z.1 33 dX13_whyNotAll_18 (by decide) (fun c3 => ?_) (fun c3 => ?_)
      · rw [if_pos c3] at hf
        refine J_iconst Z.1 (v := 2) (by decide) dX13_whyNotAll_33 ?_
        cases hf
        exact J_iret Z.1 Z.2.2.2.2.2 dX13_whyNotAll_34
      · rw [if_neg c3] at hf
        refine J_iload_n Z.1 1 dX13_whyNotAll_21 rfl rfl ?_
        refine J_i2l Z.1 dX13_whyNotAll_22 ?_
        refine J_iload_n Z.1 3 dX13_whyNotAll_23 rfl rfl ?_
        refine J_i2l Z.1 dX13_whyNotAll_24 ?_
        refine J_ladd Z.1 dX13_whyNotAll_25 ?_
        refine J_ldc2 Z.1 q_1841 dX13_whyNotAll_26 ?_
        refine J_lcmp Z.1 dX13_whyNotAll_29 ?_
        refine J_if_le Z.1 35 dX13_whyNotAll_30 (by decide) (fun c4 => ?_) (fun c4 => ?_)
        · rw [if_pos c4] at hf
          refine J_lv [0, 2, 3] rfl ?_
          exact pX13_whyNotAll_b35_ok Z hK t0   hf
        · rw [if_neg c4] at hf
          refine J_iconst Z.1 (v := 2) (by decide) dX13_whyNotAll_33 ?_
          cases hf
          exact J_iret Z.1 Z.2.2.2.2.2 dX13_whyNotAll_34
  · rw [if_pos c1] at hf
    refine J_iconst Z.1 (v := 1) (by decide) dX13_whyNotAll_8 ?_
    cases hf
    exact J_iret Z.1 Z.2.2.2.2.2 dX13_whyNotAll_9
theorem dX13_pokeAll_0 : decode cX13_pokeAll 0 = .ok (.aload_n 0, 1) := by decide +kernel
theorem dX13_pokeAll_1 : decode cX13_pokeAll 1 = .ok (.iconst 0, 1) := by decide +kernel
theorem dX13_pokeAll_2 : decode cX13_pokeAll 2 = .ok (.putfield 71, 3) := by decide +kernel
theorem dX13_pokeAll_5 : decode cX13_pokeAll 5 = .ok (.aload_n 0, 1) := by decide +kernel
theorem dX13_pokeAll_6 : decode cX13_pokeAll 6 = .ok (.aload_n 0, 1) := by decide +kernel
theorem dX13_pokeAll_7 : decode cX13_pokeAll 7 = .ok (.iload_n 1, 1) := by decide +kernel
theorem dX13_pokeAll_8 : decode cX13_pokeAll 8 = .ok (.iload_n 2, 1) := by decide +kernel
theorem dX13_pokeAll_9 : decode cX13_pokeAll 9 = .ok (.iload_n 3, 1) := by decide +kernel
theorem dX13_pokeAll_10 : decode cX13_pokeAll 10 = .ok (.invokevirtual 326, 3) := by decide +kernel
theorem dX13_pokeAll_13 : decode cX13_pokeAll 13 = .ok (.putfield 74, 3) := by decide +kernel
theorem dX13_pokeAll_16 : decode cX13_pokeAll 16 = .ok (.aload_n 0, 1) := by decide +kernel
theorem dX13_pokeAll_17 : decode cX13_pokeAll 17 = .ok (.getfield 74, 3) := by decide +kernel
theorem dX13_pokeAll_20 : decode cX13_pokeAll 20 = .ok (.ifCond .le 5, 3) := by decide +kernel
theorem dX13_pokeAll_23 : decode cX13_pokeAll 23 = .ok (.iconst (-1), 1) := by decide +kernel
theorem dX13_pokeAll_24 : decode cX13_pokeAll 24 = .ok (.ireturn, 1) := by decide +kernel
theorem dX13_pokeAll_25 : decode cX13_pokeAll 25 = .ok (.iconst 0, 1) := by decide +kernel
theorem dX13_pokeAll_26 : decode cX13_pokeAll 26 = .ok (.istore 4, 2) := by decide +kernel
theorem dX13_pokeAll_28 : decode cX13_pokeAll 28 = .ok (.iload 4, 2) := by decide +kernel
theorem dX13_pokeAll_30 : decode cX13_pokeAll 30 = .ok (.iload_n 3, 1) := by decide +kernel
theorem dX13_pokeAll_31 : decode cX13_pokeAll 31 = .ok (.if_icmp .ge 29, 3) := by decide +kernel
theorem dX13_pokeAll_34 : decode cX13_pokeAll 34 = .ok (.aload_n 0, 1) := by decide +kernel
theorem dX13_pokeAll_35 : decode cX13_pokeAll 35 = .ok (.getfield 34, 3) := by decide +kernel
theorem dX13_pokeAll_38 : decode cX13_pokeAll 38 = .ok (.bipush 100, 2) := by decide +kernel
theorem dX13_pokeAll_40 : decode cX13_pokeAll 40 = .ok (.iload_n 1, 1) := by decide +kernel
theorem dX13_pokeAll_41 : decode cX13_pokeAll 41 = .ok (.iadd, 1) := by decide +kernel
theorem dX13_pokeAll_42 : decode cX13_pokeAll 42 = .ok (.iload 4, 2) := by decide +kernel
theorem dX13_pokeAll_44 : decode cX13_pokeAll 44 = .ok (.iadd, 1) := by decide +kernel
theorem dX13_pokeAll_45 : decode cX13_pokeAll 45 = .ok (.aload_n 0, 1) := by decide +kernel
theorem dX13_pokeAll_46 : decode cX13_pokeAll 46 = .ok (.iload_n 2, 1) := by decide +kernel
theorem dX13_pokeAll_47 : decode cX13_pokeAll 47 = .ok (.iload 4, 2) := by decide +kernel
theorem dX13_pokeAll_49 : decode cX13_pokeAll 49 = .ok (.invokevirtual 330, 3) := by decide +kernel
theorem dX13_pokeAll_52 : decode cX13_pokeAll 52 = .ok (.l2d, 1) := by decide +kernel
theorem dX13_pokeAll_53 : decode cX13_pokeAll 53 = .ok (.dastore, 1) := by decide +kernel
theorem dX13_pokeAll_54 : decode cX13_pokeAll 54 = .ok (.iinc 4 1, 3) := by decide +kernel
theorem dX13_pokeAll_57 : decode cX13_pokeAll 57 = .ok (.goto (-29), 3) := by decide +kernel
theorem dX13_pokeAll_60 : decode cX13_pokeAll 60 = .ok (.iload_n 3, 1) := by decide +kernel
theorem dX13_pokeAll_61 : decode cX13_pokeAll 61 = .ok (.ireturn, 1) := by decide +kernel
def pX13_pokeAll_b28 (g : MT) (this : Nat) (p1 : Int32) (p2 : Int32) (p3 : Int32) (k28 : Int32 → CT → Option ((Int32) × CT)) (l4 : Int32) (h : CT) : Option ((Int32) × CT) := if p3 ≤ l4 then some (p3, h) else lt (hR h this 20) fun r2 => (bd (pX13_numberOf g h this p2 l4) fun x3 => (nn r2 fun a2 => (tg g a2 22 (ix (gL g a2) ((100 + p1) + l4) (lt (sD h a2 (Int32.toNatClampNeg ((100 + p1) + l4)) (fl2d x3)) fun h7 => (lt (l4 + 1) fun x8 => (k28 x8 h7)))))))
set_option maxRecDepth 10000 in
set_option maxHeartbeats 4000000 in
theorem pX13_pokeAll_b28_ok {X : Cx} {G : Gx} {dk : Nat} {g : MT} {r0 : Int32} {h0 : CT} {this : Nat} {p1 : Int32} {p2 : Int32} {p3 : Int32} {k28 : Int32 → CT → Option ((Int32) × CT)} (Z : Zx X G cX13_pokeAll RX13 5 dk (some .int) (some (.int r0)) g h0) (hK : 3 ≤ dk) (t0 : gT g this = 12) (hk28 : ∀ (l4 : Int32) (h : CT), k28 l4 h = some (r0, h0) → J X g h 28 [(0, va_rf (some this)), (1, .int p1), (2, .int p2), (3, .int p3), (4, .int l4)] []) (l4 : Int32) (h : CT) (hf : pX13_pokeAll_b28 g this p1 p2 p3 k28 l4 h = some (r0, h0)) : J X g h 28 [(0, va_rf (some this)), (1, .int p1), (2, .int p2), (3, .int p3), (4, .int l4)] [] := by
  unfold pX13_pokeAll_b28 at hf
  refine J_iload Z.1 4 dX13_pokeAll_28 rfl ?_
  refine J_iload_n Z.1 3 dX13_pokeAll_30 rfl rfl ?_
  refine J_icmp_ge Z.1 60 dX13_pokeAll_31 (by decide) (fun c1 => ?_) (fun c1 => ?_)
  · rw [if_pos c1] at hf
    refine J_iload_n Z.1 3 dX13_pokeAll_60 rfl rfl ?_
    cases hf
    exact J_iret Z.1 Z.2.2.2.2.2 dX13_pokeAll_61
  · rw [if_neg c1] at hf
    refine J_aload_n Z.1 0 dX13_pokeAll_34 rfl rfl ?_
    refine J_get (v := va_rf (hR h this 20)) Z.1 dX13_pokeAll_35 fl_X13_34 t0 rfl ?_
    refine J_tr (fun r2 er2 => ?_)
    replace hf := lt_i hf r2 er2
    refine J_bipush Z.1 (v := 100) (by decide) dX13_pokeAll_38 ?_
    refine J_iload_n Z.1 1 dX13_pokeAll_40 rfl rfl ?_
    refine J_iadd Z.1 dX13_pokeAll_41 ?_
    refine J_iload Z.1 4 dX13_pokeAll_42 rfl ?_
    refine J_iadd Z.1 dX13_pokeAll_44 ?_
    refine J_aload_n Z.1 0 dX13_pokeAll_45 rfl rfl ?_
    refine J_iload_n Z.1 2 dX13_pokeAll_46 rfl rfl ?_
    refine J_iload Z.1 4 dX13_pokeAll_47 rfl ?_
    replace hf := bd_i hf
    obtain ⟨x3, q4, hf⟩ := hf
    refine J_callV (ci := 11) (as := [.int p2, .int l4]) (rest := [.int ((100 + p1) + l4), va_rf r2]) (sy := [.long x3, .int ((100 + p1) + l4), va_rf r2]) Z.1 dX13_pokeAll_49 cw_X13_330 (pX13_numberOf_ok G (dk - 1) (by omega) q4) rfl rfl t0 (zG Z) rfl (by simp [cat_i, cat_l, cat_d, cat_rf]) (zF Z (by omega)) (zO Z (by omega) (by decide)) (zM _) Z.2.1 Z.2.1 rfl rfl ?_
    refine J_l2d Z.1 dX13_pokeAll_52 ?_
    replace hf := nn_i hf
    obtain ⟨a2, rfl, hf⟩ := hf
    replace hf := tg_i hf
    obtain ⟨t5, hf⟩ := hf
    replace hf := ix_i hf
    obtain ⟨i6, hf⟩ := hf
    refine J_dastore Z.1 dX13_pokeAll_53 t5 i6 ?_
    refine J_th (fun h7 eh7 => ?_)
    replace hf := lt_i hf h7 eh7
    refine J_iinc Z.1 (v := 1) (lv2 := [(4, .int (l4 + 1)), (0, va_rf (some this)), (1, .int p1), (2, .int p2), (3, .int p3)]) 4 dX13_pokeAll_54 rfl (by decide) (zL Z (by decide)) rfl ?_
    obtain ⟨x8, ex8⟩ : ∃ z, z = (l4 + 1) := ⟨_, rfl⟩
    replace hf := lt_i hf x8 ex8
    rw [← ex8]
    refine J_goto Z.1 28 dX13_pokeAll_57 (by decide) ?_
    refine J_lv [1, 2, 3, 4, 0] rfl ?_
    exact hk28 _ _ hf
def pX13_pokeAll_l28 (g : MT) (this : Nat) (p1 : Int32) (p2 : Int32) (p3 : Int32) : Nat → Int32 → CT → Option ((Int32) × CT)
  | 0, _, _ => none
  | n + 1, l4, h => pX13_pokeAll_b28 g this p1 p2 p3 (pX13_pokeAll_l28 g this p1 p2 p3 n) l4 h
theorem pX13_pokeAll_l28_ok {X : Cx} {G : Gx} {dk : Nat} {g : MT} {r0 : Int32} {h0 : CT} {this : Nat} {p1 : Int32} {p2 : Int32} {p3 : Int32} (Z : Zx X G cX13_pokeAll RX13 5 dk (some .int) (some (.int r0)) g h0) (hK : 3 ≤ dk) (t0 : gT g this = 12) : ∀ (n : Nat) (l4 : Int32) (h : CT), pX13_pokeAll_l28 g this p1 p2 p3 n l4 h = some (r0, h0) → J X g h 28 [(0, va_rf (some this)), (1, .int p1), (2, .int p2), (3, .int p3), (4, .int l4)] [] := by
  intro n
  induction n with
  | zero => intro l4 h hf; cases hf
  | succ n ih => intro l4 h hf; exact pX13_pokeAll_b28_ok Z hK t0 ih l4 h hf
def pX13_pokeAll (g : MT) (h : CT) (this : Nat) (p1 : Int32) (p2 : Int32) (p3 : Int32) : Option ((Int32) × CT) := tg g this 12 (lt (sI h this 1 0) fun h1 => (bd (pX13_whyNotAll g h1 this p1 p2 p3) fun x2 => (lt (sI h1 this 0 x2) fun h4 => (if (hI h4 this 0) ≤ 0 then pX13_pokeAll_l28 g this p1 p2 p3  FUEL 0 h4 else some ((-1), h4)))))
set_option maxRecDepth 10000 in
set_option maxHeartbeats 4000000 in
theorem pX13_pokeAll_ok (G : Gx) (dk : Nat) (hK : 3 ≤ dk) {g : MT} {h h0 : CT} {this : Nat} {p1 : Int32} {p2 : Int32} {p3 : Int32} {r0 : Int32} (hf : pX13_pokeAll g h this p1 p2 p3 = some (r0, h0)) : Ctr G dk yX13_pokeAll cX13_pokeAll 5 (some .int) [va_rf (some this), .int p1, .int p2, .int p3] g h (some (.int r0)) g h0 := by
  refine Ctr.ofZ (lv := [(0, va_rf (some this)), (1, .int p1), (2, .int p2), (3, .int p3)]) (by decide +kernel) (by simp [cat_i, cat_l, cat_d, cat_rf]) rfl fun X Z => ?_
  unfold pX13_pokeAll at hf
  replace hf := tg_i hf
  obtain ⟨t0, hf⟩ := hf
  refine J_aload_n Z.1 0 dX13_pokeAll_0 rfl rfl ?_
  refine J_iconst Z.1 (v := 0) (by decide) dX13_pokeAll_1 ?_
  refine J_putI Z.1 dX13_pokeAll_2 fl_X13_71 (fun q => by cases q) t0 rfl rfl (congrArg Value.int (hI_s _ _ _ _)) ?_
  refine J_th (fun h1 eh1 => ?_)
  replace hf := lt_i hf h1 eh1
  refine J_aload_n Z.1 0 dX13_pokeAll_5 rfl rfl ?_
  refine J_aload_n Z.1 0 dX13_pokeAll_6 rfl rfl ?_
  refine J_iload_n Z.1 1 dX13_pokeAll_7 rfl rfl ?_
  refine J_iload_n Z.1 2 dX13_pokeAll_8 rfl rfl ?_
  refine J_iload_n Z.1 3 dX13_pokeAll_9 rfl rfl ?_
  replace hf := bd_i hf
  obtain ⟨x2, q3, hf⟩ := hf
  refine J_callV (ci := 11) (as := [.int p1, .int p2, .int p3]) (rest := [va_rf (some this)]) (sy := [.int x2, va_rf (some this)]) Z.1 dX13_pokeAll_10 cw_X13_326 (pX13_whyNotAll_ok G (dk - 1) (by omega) q3) rfl rfl t0 (zG Z) rfl (by simp [cat_i, cat_l, cat_d, cat_rf]) (zF Z (by omega)) (zO Z (by omega) (by decide)) (zM _) Z.2.1 Z.2.1 rfl rfl ?_
  refine J_putI Z.1 dX13_pokeAll_13 fl_X13_74 (fun q => by cases q) t0 rfl rfl (congrArg Value.int (hI_s _ _ _ _)) ?_
  refine J_th (fun h4 eh4 => ?_)
  replace hf := lt_i hf h4 eh4
  refine J_aload_n Z.1 0 dX13_pokeAll_16 rfl rfl ?_
  refine J_get (v := .int (hI h4 this 0)) Z.1 dX13_pokeAll_17 fl_X13_74 t0 rfl ?_
  refine J_if_le Z.1 25 dX13_pokeAll_20 (by decide) (fun c5 => ?_) (fun c5 => ?_)
  · rw [if_pos c5] at hf
    refine J_iconst Z.1 (v := 0) (by decide) dX13_pokeAll_25 ?_
    refine J_istore Z.1 (lv2 := [(4, .int 0), (0, va_rf (some this)), (1, .int p1), (2, .int p2), (3, .int p3)]) dX13_pokeAll_26 (zL Z (by decide)) rfl ?_
    refine J_lv [1, 2, 3, 4, 0] rfl ?_
    exact pX13_pokeAll_l28_ok Z hK t0  FUEL _ _ hf
  · rw [if_neg c5] at hf
    refine J_iconst Z.1 (v := (-1)) (by decide) dX13_pokeAll_23 ?_
    cases hf
    exact J_iret Z.1 Z.2.2.2.2.2 dX13_pokeAll_24
theorem dX13_peekAll_0 : decode cX13_peekAll 0 = .ok (.aload_n 0, 1) := by decide +kernel
theorem dX13_peekAll_1 : decode cX13_peekAll 1 = .ok (.iconst 0, 1) := by decide +kernel
theorem dX13_peekAll_2 : decode cX13_peekAll 2 = .ok (.putfield 71, 3) := by decide +kernel
theorem dX13_peekAll_5 : decode cX13_peekAll 5 = .ok (.aload_n 0, 1) := by decide +kernel
theorem dX13_peekAll_6 : decode cX13_peekAll 6 = .ok (.aload_n 0, 1) := by decide +kernel
theorem dX13_peekAll_7 : decode cX13_peekAll 7 = .ok (.iload_n 1, 1) := by decide +kernel
theorem dX13_peekAll_8 : decode cX13_peekAll 8 = .ok (.iload_n 2, 1) := by decide +kernel
theorem dX13_peekAll_9 : decode cX13_peekAll 9 = .ok (.iload_n 3, 1) := by decide +kernel
theorem dX13_peekAll_10 : decode cX13_peekAll 10 = .ok (.invokevirtual 326, 3) := by decide +kernel
theorem dX13_peekAll_13 : decode cX13_peekAll 13 = .ok (.putfield 74, 3) := by decide +kernel
theorem dX13_peekAll_16 : decode cX13_peekAll 16 = .ok (.aload_n 0, 1) := by decide +kernel
theorem dX13_peekAll_17 : decode cX13_peekAll 17 = .ok (.getfield 74, 3) := by decide +kernel
theorem dX13_peekAll_20 : decode cX13_peekAll 20 = .ok (.ifCond .le 5, 3) := by decide +kernel
theorem dX13_peekAll_23 : decode cX13_peekAll 23 = .ok (.iconst (-1), 1) := by decide +kernel
theorem dX13_peekAll_24 : decode cX13_peekAll 24 = .ok (.ireturn, 1) := by decide +kernel
theorem dX13_peekAll_25 : decode cX13_peekAll 25 = .ok (.iconst 0, 1) := by decide +kernel
theorem dX13_peekAll_26 : decode cX13_peekAll 26 = .ok (.istore 4, 2) := by decide +kernel
theorem dX13_peekAll_28 : decode cX13_peekAll 28 = .ok (.iload 4, 2) := by decide +kernel
theorem dX13_peekAll_30 : decode cX13_peekAll 30 = .ok (.iload_n 3, 1) := by decide +kernel
theorem dX13_peekAll_31 : decode cX13_peekAll 31 = .ok (.if_icmp .ge 30, 3) := by decide +kernel
theorem dX13_peekAll_34 : decode cX13_peekAll 34 = .ok (.aload_n 0, 1) := by decide +kernel
theorem dX13_peekAll_35 : decode cX13_peekAll 35 = .ok (.iload_n 2, 1) := by decide +kernel
theorem dX13_peekAll_36 : decode cX13_peekAll 36 = .ok (.iload 4, 2) := by decide +kernel
theorem dX13_peekAll_38 : decode cX13_peekAll 38 = .ok (.aload_n 0, 1) := by decide +kernel
theorem dX13_peekAll_39 : decode cX13_peekAll 39 = .ok (.getfield 34, 3) := by decide +kernel
theorem dX13_peekAll_42 : decode cX13_peekAll 42 = .ok (.bipush 100, 2) := by decide +kernel
theorem dX13_peekAll_44 : decode cX13_peekAll 44 = .ok (.iload_n 1, 1) := by decide +kernel
theorem dX13_peekAll_45 : decode cX13_peekAll 45 = .ok (.iadd, 1) := by decide +kernel
theorem dX13_peekAll_46 : decode cX13_peekAll 46 = .ok (.iload 4, 2) := by decide +kernel
theorem dX13_peekAll_48 : decode cX13_peekAll 48 = .ok (.iadd, 1) := by decide +kernel
theorem dX13_peekAll_49 : decode cX13_peekAll 49 = .ok (.daload, 1) := by decide +kernel
theorem dX13_peekAll_50 : decode cX13_peekAll 50 = .ok (.d2l, 1) := by decide +kernel
theorem dX13_peekAll_51 : decode cX13_peekAll 51 = .ok (.invokevirtual 334, 3) := by decide +kernel
theorem dX13_peekAll_54 : decode cX13_peekAll 54 = .ok (.pop, 1) := by decide +kernel
theorem dX13_peekAll_55 : decode cX13_peekAll 55 = .ok (.iinc 4 1, 3) := by decide +kernel
theorem dX13_peekAll_58 : decode cX13_peekAll 58 = .ok (.goto (-30), 3) := by decide +kernel
theorem dX13_peekAll_61 : decode cX13_peekAll 61 = .ok (.iload_n 3, 1) := by decide +kernel
theorem dX13_peekAll_62 : decode cX13_peekAll 62 = .ok (.ireturn, 1) := by decide +kernel
def pX13_peekAll_b28 (g : MT) (this : Nat) (p1 : Int32) (p2 : Int32) (p3 : Int32) (k28 : Int32 → CT → Option ((Int32) × CT)) (l4 : Int32) (h : CT) : Option ((Int32) × CT) := if p3 ≤ l4 then some (p3, h) else lt (hR h this 20) fun r2 => (nn r2 fun a2 => (tg g a2 22 (ix (gL g a2) ((100 + p1) + l4) (bd2 (pX13_write g h this p2 l4 (FP.d2l (hD h a2 (Int32.toNatClampNeg ((100 + p1) + l4))))) fun x7 h5 => (lt (l4 + 1) fun x8 => (k28 x8 h5))))))
set_option maxRecDepth 10000 in
set_option maxHeartbeats 4000000 in
theorem pX13_peekAll_b28_ok {X : Cx} {G : Gx} {dk : Nat} {g : MT} {r0 : Int32} {h0 : CT} {this : Nat} {p1 : Int32} {p2 : Int32} {p3 : Int32} {k28 : Int32 → CT → Option ((Int32) × CT)} (Z : Zx X G cX13_peekAll RX13 5 dk (some .int) (some (.int r0)) g h0) (hK : 3 ≤ dk) (t0 : gT g this = 12) (hk28 : ∀ (l4 : Int32) (h : CT), k28 l4 h = some (r0, h0) → J X g h 28 [(0, va_rf (some this)), (1, .int p1), (2, .int p2), (3, .int p3), (4, .int l4)] []) (l4 : Int32) (h : CT) (hf : pX13_peekAll_b28 g this p1 p2 p3 k28 l4 h = some (r0, h0)) : J X g h 28 [(0, va_rf (some this)), (1, .int p1), (2, .int p2), (3, .int p3), (4, .int l4)] [] := by
  unfold pX13_peekAll_b28 at hf
  refine J_iload Z.1 4 dX13_peekAll_28 rfl ?_
  refine J_iload_n Z.1 3 dX13_peekAll_30 rfl rfl ?_
  refine J_icmp_ge Z.1 61 dX13_peekAll_31 (by decide) (fun c1 => ?_) (fun c1 => ?_)
  · rw [if_pos c1] at hf
    refine J_iload_n Z.1 3 dX13_peekAll_61 rfl rfl ?_
    cases hf
    exact J_iret Z.1 Z.2.2.2.2.2 dX13_peekAll_62
  · rw [if_neg c1] at hf
    refine J_aload_n Z.1 0 dX13_peekAll_34 rfl rfl ?_
    refine J_iload_n Z.1 2 dX13_peekAll_35 rfl rfl ?_
    refine J_iload Z.1 4 dX13_peekAll_36 rfl ?_
    refine J_aload_n Z.1 0 dX13_peekAll_38 rfl rfl ?_
    refine J_get (v := va_rf (hR h this 20)) Z.1 dX13_peekAll_39 fl_X13_34 t0 rfl ?_
    refine J_tr (fun r2 er2 => ?_)
    replace hf := lt_i hf r2 er2
    refine J_bipush Z.1 (v := 100) (by decide) dX13_peekAll_42 ?_
    refine J_iload_n Z.1 1 dX13_peekAll_44 rfl rfl ?_
    refine J_iadd Z.1 dX13_peekAll_45 ?_
    refine J_iload Z.1 4 dX13_peekAll_46 rfl ?_
    refine J_iadd Z.1 dX13_peekAll_48 ?_
    replace hf := nn_i hf
    obtain ⟨a2, rfl, hf⟩ := hf
    replace hf := tg_i hf
    obtain ⟨t3, hf⟩ := hf
    replace hf := ix_i hf
    obtain ⟨i4, hf⟩ := hf
    refine J_daload Z.1 dX13_peekAll_49 t3 i4 ?_
    refine J_d2l Z.1 dX13_peekAll_50 ?_
    replace hf := bd2_i hf
    obtain ⟨x7, h5, q6, hf⟩ := hf
    refine J_callV (ci := 11) (as := [.int p2, .int l4, .long (FP.d2l (hD h a2 (Int32.toNatClampNeg ((100 + p1) + l4))))]) (rest := []) (sy := [.int x7]) Z.1 dX13_peekAll_51 cw_X13_334 (pX13_write_ok G (dk - 1) (by omega) q6) rfl rfl t0 (zG Z) rfl (by decide) (zF Z (by omega)) (zO Z (by omega) (by decide)) (zM _) Z.2.1 Z.2.1 rfl rfl ?_
    refine J_pop Z.1 dX13_peekAll_54 (by simp [cat_i, cat_l, cat_d, cat_rf]) ?_
    refine J_iinc Z.1 (v := 1) (lv2 := [(4, .int (l4 + 1)), (0, va_rf (some this)), (1, .int p1), (2, .int p2), (3, .int p3)]) 4 dX13_peekAll_55 rfl (by decide) (zL Z (by decide)) rfl ?_
    obtain ⟨x8, ex8⟩ : ∃ z, z = (l4 + 1) := ⟨_, rfl⟩
    replace hf := lt_i hf x8 ex8
    rw [← ex8]
    refine J_goto Z.1 28 dX13_peekAll_58 (by decide) ?_
    refine J_lv [1, 2, 3, 4, 0] rfl ?_
    exact hk28 _ _ hf
def pX13_peekAll_l28 (g : MT) (this : Nat) (p1 : Int32) (p2 : Int32) (p3 : Int32) : Nat → Int32 → CT → Option ((Int32) × CT)
  | 0, _, _ => none
  | n + 1, l4, h => pX13_peekAll_b28 g this p1 p2 p3 (pX13_peekAll_l28 g this p1 p2 p3 n) l4 h
theorem pX13_peekAll_l28_ok {X : Cx} {G : Gx} {dk : Nat} {g : MT} {r0 : Int32} {h0 : CT} {this : Nat} {p1 : Int32} {p2 : Int32} {p3 : Int32} (Z : Zx X G cX13_peekAll RX13 5 dk (some .int) (some (.int r0)) g h0) (hK : 3 ≤ dk) (t0 : gT g this = 12) : ∀ (n : Nat) (l4 : Int32) (h : CT), pX13_peekAll_l28 g this p1 p2 p3 n l4 h = some (r0, h0) → J X g h 28 [(0, va_rf (some this)), (1, .int p1), (2, .int p2), (3, .int p3), (4, .int l4)] [] := by
  intro n
  induction n with
  | zero => intro l4 h hf; cases hf
  | succ n ih => intro l4 h hf; exact pX13_peekAll_b28_ok Z hK t0 ih l4 h hf
def pX13_peekAll (g : MT) (h : CT) (this : Nat) (p1 : Int32) (p2 : Int32) (p3 : Int32) : Option ((Int32) × CT) := tg g this 12 (lt (sI h this 1 0) fun h1 => (bd (pX13_whyNotAll g h1 this p1 p2 p3) fun x2 => (lt (sI h1 this 0 x2) fun h4 => (if (hI h4 this 0) ≤ 0 then pX13_peekAll_l28 g this p1 p2 p3  FUEL 0 h4 else some ((-1), h4)))))
set_option maxRecDepth 10000 in
set_option maxHeartbeats 4000000 in
theorem pX13_peekAll_ok (G : Gx) (dk : Nat) (hK : 3 ≤ dk) {g : MT} {h h0 : CT} {this : Nat} {p1 : Int32} {p2 : Int32} {p3 : Int32} {r0 : Int32} (hf : pX13_peekAll g h this p1 p2 p3 = some (r0, h0)) : Ctr G dk yX13_peekAll cX13_peekAll 5 (some .int) [va_rf (some this), .int p1, .int p2, .int p3] g h (some (.int r0)) g h0 := by
  refine Ctr.ofZ (lv := [(0, va_rf (some this)), (1, .int p1), (2, .int p2), (3, .int p3)]) (by decide +kernel) (by simp [cat_i, cat_l, cat_d, cat_rf]) rfl fun X Z => ?_
  unfold pX13_peekAll at hf
  replace hf := tg_i hf
  obtain ⟨t0, hf⟩ := hf
  refine J_aload_n Z.1 0 dX13_peekAll_0 rfl rfl ?_
  refine J_iconst Z.1 (v := 0) (by decide) dX13_peekAll_1 ?_
  refine J_putI Z.1 dX13_peekAll_2 fl_X13_71 (fun q => by cases q) t0 rfl rfl (congrArg Value.int (hI_s _ _ _ _)) ?_
  refine J_th (fun h1 eh1 => ?_)
  replace hf := lt_i hf h1 eh1
  refine J_aload_n Z.1 0 dX13_peekAll_5 rfl rfl ?_
  refine J_aload_n Z.1 0 dX13_peekAll_6 rfl rfl ?_
  refine J_iload_n Z.1 1 dX13_peekAll_7 rfl rfl ?_
  refine J_iload_n Z.1 2 dX13_peekAll_8 rfl rfl ?_
  refine J_iload_n Z.1 3 dX13_peekAll_9 rfl rfl ?_
  replace hf := bd_i hf
  obtain ⟨x2, q3, hf⟩ := hf
  refine J_callV (ci := 11) (as := [.int p1, .int p2, .int p3]) (rest := [va_rf (some this)]) (sy := [.int x2, va_rf (some this)]) Z.1 dX13_peekAll_10 cw_X13_326 (pX13_whyNotAll_ok G (dk - 1) (by omega) q3) rfl rfl t0 (zG Z) rfl (by simp [cat_i, cat_l, cat_d, cat_rf]) (zF Z (by omega)) (zO Z (by omega) (by decide)) (zM _) Z.2.1 Z.2.1 rfl rfl ?_
  refine J_putI Z.1 dX13_peekAll_13 fl_X13_74 (fun q => by cases q) t0 rfl rfl (congrArg Value.int (hI_s _ _ _ _)) ?_
  refine J_th (fun h4 eh4 => ?_)
  replace hf := lt_i hf h4 eh4
  refine J_aload_n Z.1 0 dX13_peekAll_16 rfl rfl ?_
  refine J_get (v := .int (hI h4 this 0)) Z.1 dX13_peekAll_17 fl_X13_74 t0 rfl ?_
  refine J_if_le Z.1 25 dX13_peekAll_20 (by decide) (fun c5 => ?_) (fun c5 => ?_)
  · rw [if_pos c5] at hf
    refine J_iconst Z.1 (v := 0) (by decide) dX13_peekAll_25 ?_
    refine J_istore Z.1 (lv2 := [(4, .int 0), (0, va_rf (some this)), (1, .int p1), (2, .int p2), (3, .int p3)]) dX13_peekAll_26 (zL Z (by decide)) rfl ?_
    refine J_lv [1, 2, 3, 4, 0] rfl ?_
    exact pX13_peekAll_l28_ok Z hK t0  FUEL _ _ hf
  · rw [if_neg c5] at hf
    refine J_iconst Z.1 (v := (-1)) (by decide) dX13_peekAll_23 ?_
    cases hf
    exact J_iret Z.1 Z.2.2.2.2.2 dX13_peekAll_24
theorem dX13_drop_0 : decode cX13_drop 0 = .ok (.aload_n 0, 1) := by decide +kernel
theorem dX13_drop_1 : decode cX13_drop 1 = .ok (.iconst 0, 1) := by decide +kernel
theorem dX13_drop_2 : decode cX13_drop 2 = .ok (.putfield 71, 3) := by decide +kernel
theorem dX13_drop_5 : decode cX13_drop 5 = .ok (.aload_n 0, 1) := by decide +kernel
theorem dX13_drop_6 : decode cX13_drop 6 = .ok (.iconst 0, 1) := by decide +kernel
theorem dX13_drop_7 : decode cX13_drop 7 = .ok (.putfield 74, 3) := by decide +kernel
theorem dX13_drop_10 : decode cX13_drop 10 = .ok (.iload_n 1, 1) := by decide +kernel
theorem dX13_drop_11 : decode cX13_drop 11 = .ok (.invokestatic 281, 3) := by decide +kernel
theorem dX13_drop_14 : decode cX13_drop 14 = .ok (.ifCond .ne 9, 3) := by decide +kernel
theorem dX13_drop_17 : decode cX13_drop 17 = .ok (.aload_n 0, 1) := by decide +kernel
theorem dX13_drop_18 : decode cX13_drop 18 = .ok (.iconst 2, 1) := by decide +kernel
theorem dX13_drop_19 : decode cX13_drop 19 = .ok (.invokevirtual 84, 3) := by decide +kernel
theorem dX13_drop_22 : decode cX13_drop 22 = .ok (.ireturn, 1) := by decide +kernel
theorem dX13_drop_23 : decode cX13_drop 23 = .ok (.aload_n 0, 1) := by decide +kernel
theorem dX13_drop_24 : decode cX13_drop 24 = .ok (.getfield 31, 3) := by decide +kernel
theorem dX13_drop_27 : decode cX13_drop 27 = .ok (.iconst 4, 1) := by decide +kernel
theorem dX13_drop_28 : decode cX13_drop 28 = .ok (.iaload, 1) := by decide +kernel
theorem dX13_drop_29 : decode cX13_drop 29 = .ok (.iload_n 1, 1) := by decide +kernel
theorem dX13_drop_30 : decode cX13_drop 30 = .ok (.invokestatic 287, 3) := by decide +kernel
theorem dX13_drop_33 : decode cX13_drop 33 = .ok (.ifCond .ne 9, 3) := by decide +kernel
theorem dX13_drop_36 : decode cX13_drop 36 = .ok (.aload_n 0, 1) := by decide +kernel
theorem dX13_drop_37 : decode cX13_drop 37 = .ok (.iconst 3, 1) := by decide +kernel
theorem dX13_drop_38 : decode cX13_drop 38 = .ok (.invokevirtual 84, 3) := by decide +kernel
theorem dX13_drop_41 : decode cX13_drop 41 = .ok (.ireturn, 1) := by decide +kernel
theorem dX13_drop_42 : decode cX13_drop 42 = .ok (.aload_n 0, 1) := by decide +kernel
theorem dX13_drop_43 : decode cX13_drop 43 = .ok (.getfield 31, 3) := by decide +kernel
theorem dX13_drop_46 : decode cX13_drop 46 = .ok (.iconst 4, 1) := by decide +kernel
theorem dX13_drop_47 : decode cX13_drop 47 = .ok (.dup2, 1) := by decide +kernel
theorem dX13_drop_48 : decode cX13_drop 48 = .ok (.iaload, 1) := by decide +kernel
theorem dX13_drop_49 : decode cX13_drop 49 = .ok (.iconst 1, 1) := by decide +kernel
theorem dX13_drop_50 : decode cX13_drop 50 = .ok (.iload_n 1, 1) := by decide +kernel
theorem dX13_drop_51 : decode cX13_drop 51 = .ok (.ishl, 1) := by decide +kernel
theorem dX13_drop_52 : decode cX13_drop 52 = .ok (.ixor, 1) := by decide +kernel
theorem dX13_drop_53 : decode cX13_drop 53 = .ok (.iastore, 1) := by decide +kernel
theorem dX13_drop_54 : decode cX13_drop 54 = .ok (.iconst 1, 1) := by decide +kernel
theorem dX13_drop_55 : decode cX13_drop 55 = .ok (.ireturn, 1) := by decide +kernel
def pX13_drop (g : MT) (h : CT) (this : Nat) (p1 : Int32) : Option ((Int32) × CT) := tg g this 12 (lt (sI h this 1 0) fun h1 => (lt (sI h1 this 0 0) fun h2 => (if (pX13_isRow p1) = 0 then bd2 (pX13_no g h2 this 2) fun x19 h17 => (bz x19 (some (x19, h17))) else lt (hR h2 this 19) fun r4 => (nn r4 fun a4 => (tg g a4 20 (ix (gL g a4) 4 (if (pX13_has (hI h2 a4 (Int32.toNatClampNeg 4)) p1) = 0 then bd2 (pX13_no g h2 this 3) fun x15 h13 => (bz x15 (some (x15, h13))) else lt (hR h2 this 19) fun r8 => (nn r8 fun a8 => (tg g a8 20 (ix (gL g a8) 4 (ix (gL g a8) 4 (lt (sI h2 a8 (Int32.toNatClampNeg 4) ((hI h2 a8 (Int32.toNatClampNeg 4)) ^^^ ((1 : Int32) <<< (p1 &&& 31)))) fun h12 => (some (1, h12))))))))))))))
set_option maxRecDepth 10000 in
set_option maxHeartbeats 4000000 in
theorem pX13_drop_ok (G : Gx) (dk : Nat) (hK : 2 ≤ dk) {g : MT} {h h0 : CT} {this : Nat} {p1 : Int32} {r0 : Int32} (hf : pX13_drop g h this p1 = some (r0, h0)) : Ctr G dk yX13_drop cX13_drop 2 (some .boolean) [va_rf (some this), .int p1] g h (some (.int r0)) g h0 := by
  refine Ctr.ofZ (lv := [(0, va_rf (some this)), (1, .int p1)]) (by decide +kernel) (by simp [cat_i, cat_l, cat_d, cat_rf]) rfl fun X Z => ?_
  unfold pX13_drop at hf
  replace hf := tg_i hf
  obtain ⟨t0, hf⟩ := hf
  refine J_aload_n Z.1 0 dX13_drop_0 rfl rfl ?_
  refine J_iconst Z.1 (v := 0) (by decide) dX13_drop_1 ?_
  refine J_putI Z.1 dX13_drop_2 fl_X13_71 (fun q => by cases q) t0 rfl rfl (congrArg Value.int (hI_s _ _ _ _)) ?_
  refine J_th (fun h1 eh1 => ?_)
  replace hf := lt_i hf h1 eh1
  refine J_aload_n Z.1 0 dX13_drop_5 rfl rfl ?_
  refine J_iconst Z.1 (v := 0) (by decide) dX13_drop_6 ?_
  refine J_putI Z.1 dX13_drop_7 fl_X13_74 (fun q => by cases q) t0 rfl rfl (congrArg Value.int (hI_s _ _ _ _)) ?_
  refine J_th (fun h2 eh2 => ?_)
  replace hf := lt_i hf h2 eh2
  refine J_iload_n Z.1 1 dX13_drop_10 rfl rfl ?_
  refine J_callS (as := [.int p1]) (rest := []) (sy := [.int (pX13_isRow p1)]) Z.1 dX13_drop_11 cw_X13_281 (pX13_isRow_ok G (dk - 1) (by omega) g h2 p1) (zG Z) rfl (by decide) (zF Z (by omega)) (zO Z (by omega) (by decide)) (zM _) Z.2.1 Z.2.1 rfl rfl ?_
  refine J_if_ne Z.1 23 dX13_drop_14 (by decide) (fun c3 => ?_) (fun c3 => ?_)
  · rw [if_neg c3] at hf
    refine J_aload_n Z.1 0 dX13_drop_23 rfl rfl ?_
    refine J_get (v := va_rf (hR h2 this 19)) Z.1 dX13_drop_24 fl_X13_31 t0 rfl ?_
    refine J_tr (fun r4 er4 => ?_)
    replace hf := lt_i hf r4 er4
    refine J_iconst Z.1 (v := 4) (by decide) dX13_drop_27 ?_
    replace hf := nn_i hf
    obtain ⟨a4, rfl, hf⟩ := hf
    replace hf := tg_i hf
    obtain ⟨t5, hf⟩ := hf
    replace hf := ix_i hf
    obtain ⟨i6, hf⟩ := hf
    refine J_iaload Z.1 dX13_drop_28 t5 i6 ?_
    refine J_iload_n Z.1 1 dX13_drop_29 rfl rfl ?_
    refine J_callS (as := [.int (hI h2 a4 (Int32.toNatClampNeg 4)), .int p1]) (rest := []) (sy := [.int (pX13_has (hI h2 a4 (Int32.toNatClampNeg 4)) p1)]) Z.1 dX13_drop_30 cw_X13_287 (pX13_has_ok G (dk - 1) (by omega) g h2 (hI h2 a4 (Int32.toNatClampNeg 4)) p1) (zG Z) rfl (by decide) (zF Z (by omega)) (zO Z (by omega) (by decide)) (zM _) Z.2.1 Z.2.1 rfl rfl ?_
    refine J_if_ne Z.1 42 dX13_drop_33 (by decide) (fun c7 => ?_) (fun c7 => ?_)
    · rw [if_neg c7] at hf
      refine J_aload_n Z.1 0 dX13_drop_42 rfl rfl ?_
      refine J_get (v := va_rf (hR h2 this 19)) Z.1 dX13_drop_43 fl_X13_31 t0 rfl ?_
      refine J_tr (fun r8 er8 => ?_)
      replace hf := lt_i hf r8 er8
      refine J_iconst Z.1 (v := 4) (by decide) dX13_drop_46 ?_
      refine J_dup2 Z.1 dX13_drop_47 (by simp [cat_i, cat_l, cat_d, cat_rf]) (by simp [cat_i, cat_l, cat_d, cat_rf]) ?_
      replace hf := nn_i hf
      obtain ⟨a8, rfl, hf⟩ := hf
      replace hf := tg_i hf
      obtain ⟨t9, hf⟩ := hf
      replace hf := ix_i hf
      obtain ⟨i10, hf⟩ := hf
      refine J_iaload Z.1 dX13_drop_48 t9 i10 ?_
      refine J_iconst Z.1 (v := 1) (by decide) dX13_drop_49 ?_
      refine J_iload_n Z.1 1 dX13_drop_50 rfl rfl ?_
      refine J_ishl Z.1 dX13_drop_51 ?_
      refine J_ixor Z.1 dX13_drop_52 ?_
      replace hf := ix_i hf
      obtain ⟨i11, hf⟩ := hf
      refine J_iastore Z.1 dX13_drop_53 t9 i11 ?_
      refine J_th (fun h12 eh12 => ?_)
      replace hf := lt_i hf h12 eh12
      refine J_iconst Z.1 (v := 1) (by decide) dX13_drop_54 ?_
      cases hf
      exact J_zret Z.1 Z.2.2.2.2.2 (z_n (Or.inr rfl)) dX13_drop_55
    · rw [if_pos c7] at hf
      refine J_aload_n Z.1 0 dX13_drop_36 rfl rfl ?_
      refine J_iconst Z.1 (v := 3) (by decide) dX13_drop_37 ?_
      replace hf := bd2_i hf
      obtain ⟨x15, h13, q14, hf⟩ := hf
      refine J_callV (ci := 11) (as := [.int 3]) (rest := []) (sy := [.int x15]) Z.1 dX13_drop_38 cw_X13_84 (pX13_no_ok G (dk - 1) (by omega) q14) rfl rfl t0 (zG Z) rfl (by decide) (zF Z (by omega)) (zO Z (by omega) (by decide)) (zM _) Z.2.1 Z.2.1 rfl rfl ?_
      replace hf := bz_i hf
      obtain ⟨z16, hf⟩ := hf
      cases hf
      exact J_zret Z.1 Z.2.2.2.2.2 (z_n z16) dX13_drop_41
  · rw [if_pos c3] at hf
    refine J_aload_n Z.1 0 dX13_drop_17 rfl rfl ?_
    refine J_iconst Z.1 (v := 2) (by decide) dX13_drop_18 ?_
    replace hf := bd2_i hf
    obtain ⟨x19, h17, q18, hf⟩ := hf
    refine J_callV (ci := 11) (as := [.int 2]) (rest := []) (sy := [.int x19]) Z.1 dX13_drop_19 cw_X13_84 (pX13_no_ok G (dk - 1) (by omega) q18) rfl rfl t0 (zG Z) rfl (by decide) (zF Z (by omega)) (zO Z (by omega) (by decide)) (zM _) Z.2.1 Z.2.1 rfl rfl ?_
    replace hf := bz_i hf
    obtain ⟨z20, hf⟩ := hf
    cases hf
    exact J_zret Z.1 Z.2.2.2.2.2 (z_n z20) dX13_drop_22
theorem dX13_leastOf_0 : decode cX13_leastOf 0 = .ok (.iload_n 0, 1) := by decide +kernel
theorem dX13_leastOf_1 : decode cX13_leastOf 1 = .ok (.iconst 1, 1) := by decide +kernel
theorem dX13_leastOf_2 : decode cX13_leastOf 2 = .ok (.if_icmp .eq 8, 3) := by decide +kernel
theorem dX13_leastOf_5 : decode cX13_leastOf 5 = .ok (.iload_n 0, 1) := by decide +kernel
theorem dX13_leastOf_6 : decode cX13_leastOf 6 = .ok (.iconst 2, 1) := by decide +kernel
theorem dX13_leastOf_7 : decode cX13_leastOf 7 = .ok (.if_icmp .ne 7, 3) := by decide +kernel
theorem dX13_leastOf_10 : decode cX13_leastOf 10 = .ok (.iconst 1, 1) := by decide +kernel
theorem dX13_leastOf_11 : decode cX13_leastOf 11 = .ok (.goto 4, 3) := by decide +kernel
theorem dX13_leastOf_14 : decode cX13_leastOf 14 = .ok (.iconst 0, 1) := by decide +kernel
theorem dX13_leastOf_15 : decode cX13_leastOf 15 = .ok (.ireturn, 1) := by decide +kernel
def pX13_leastOf_b10 (p0 : Int32)  : Int32 := 1
set_option maxRecDepth 10000 in
set_option maxHeartbeats 4000000 in
theorem pX13_leastOf_b10_ok {X : Cx} {G : Gx} {dk : Nat} {g : MT} {r0 : Int32} {h0 : CT} {p0 : Int32} (Z : Zx X G cX13_leastOf RX13 1 dk (some .int) (some (.int r0)) g h0) (hK : 0 ≤ dk)  (hf : pX13_leastOf_b10 p0 = r0) : J X g h0 10 [] [] := by
  unfold pX13_leastOf_b10 at hf
  refine J_iconst Z.1 (v := 1) (by decide) dX13_leastOf_10 ?_
  refine J_goto Z.1 15 dX13_leastOf_11 (by decide) ?_
  cases hf
  exact J_iret Z.1 Z.2.2.2.2.2 dX13_leastOf_15
def pX13_leastOf (p0 : Int32) : Int32 := if p0 = 1 then pX13_leastOf_b10 p0   else if p0 = 2 then pX13_leastOf_b10 p0   else 0
set_option maxRecDepth 10000 in
set_option maxHeartbeats 4000000 in
theorem pX13_leastOf_ok (G : Gx) (dk : Nat) (hK : 0 ≤ dk) (g : MT) (h0 : CT) (p0 : Int32) : Ctr G dk yX13_leastOf cX13_leastOf 1 (some .int) [.int p0] g h0 (some (.int (pX13_leastOf p0))) g h0 := by
  obtain ⟨r0, hf⟩ : ∃ z, pX13_leastOf p0 = z := ⟨_, rfl⟩
  rw [hf]
  refine Ctr.ofZ (lv := [(0, .int p0)]) (by decide +kernel) (by simp [cat_i, cat_l, cat_d, cat_rf]) rfl fun X Z => ?_
  unfold pX13_leastOf at hf
  refine J_iload_n Z.1 0 dX13_leastOf_0 rfl rfl ?_
  refine J_iconst Z.1 (v := 1) (by decide) dX13_leastOf_1 ?_
  refine J_icmp_eq Z.1 10 dX13_leastOf_2 (by decide) (fun c1 => ?_) (fun c1 => ?_)
  · rw [if_pos c1] at hf
    refine J_lv [] rfl ?_
    exact pX13_leastOf_b10_ok Z hK   hf
  · rw [if_neg c1] at hf
    refine J_iload_n Z.1 0 dX13_leastOf_5 rfl rfl ?_
    refine J_iconst Z.1 (v := 2) (by decide) dX13_leastOf_6 ?_
    refine J_icmp_ne Z.1 14 dX13_leastOf_7 (by decide) (fun c2 => ?_) (fun c2 => ?_)
    · rw [if_neg c2] at hf
      refine J_iconst Z.1 (v := 0) (by decide) dX13_leastOf_14 ?_
      cases hf
      exact J_iret Z.1 Z.2.2.2.2.2 dX13_leastOf_15
    · rw [if_pos c2] at hf
      refine J_lv [] rfl ?_
      exact pX13_leastOf_b10_ok Z hK   hf
theorem dX13_greatestOf_0 : decode cX13_greatestOf 0 = .ok (.iload_n 0, 1) := by decide +kernel
theorem dX13_greatestOf_1 : decode cX13_greatestOf 1 = .ok (.ifCond .ne 8, 3) := by decide +kernel
theorem dX13_greatestOf_4 : decode cX13_greatestOf 4 = .ok (.bipush 16, 2) := by decide +kernel
theorem dX13_greatestOf_6 : decode cX13_greatestOf 6 = .ok (.goto 26, 3) := by decide +kernel
theorem dX13_greatestOf_9 : decode cX13_greatestOf 9 = .ok (.iload_n 0, 1) := by decide +kernel
theorem dX13_greatestOf_10 : decode cX13_greatestOf 10 = .ok (.iconst 1, 1) := by decide +kernel
theorem dX13_greatestOf_11 : decode cX13_greatestOf 11 = .ok (.if_icmp .ne 8, 3) := by decide +kernel
theorem dX13_greatestOf_14 : decode cX13_greatestOf 14 = .ok (.bipush 16, 2) := by decide +kernel
theorem dX13_greatestOf_16 : decode cX13_greatestOf 16 = .ok (.goto 16, 3) := by decide +kernel
theorem dX13_greatestOf_19 : decode cX13_greatestOf 19 = .ok (.iload_n 0, 1) := by decide +kernel
theorem dX13_greatestOf_20 : decode cX13_greatestOf 20 = .ok (.iconst 2, 1) := by decide +kernel
theorem dX13_greatestOf_21 : decode cX13_greatestOf 21 = .ok (.if_icmp .ne 8, 3) := by decide +kernel
theorem dX13_greatestOf_24 : decode cX13_greatestOf 24 = .ok (.bipush 12, 2) := by decide +kernel
theorem dX13_greatestOf_26 : decode cX13_greatestOf 26 = .ok (.goto 6, 3) := by decide +kernel
theorem dX13_greatestOf_29 : decode cX13_greatestOf 29 = .ok (.ldc_w 338, 3) := by decide +kernel
theorem dX13_greatestOf_32 : decode cX13_greatestOf 32 = .ok (.ireturn, 1) := by decide +kernel
def pX13_greatestOf (p0 : Int32) : Int32 := if p0 = 0 then 16 else if p0 = 1 then 16 else if p0 = 2 then 12 else 65535
set_option maxRecDepth 10000 in
set_option maxHeartbeats 4000000 in
theorem pX13_greatestOf_ok (G : Gx) (dk : Nat) (hK : 0 ≤ dk) (g : MT) (h0 : CT) (p0 : Int32) : Ctr G dk yX13_greatestOf cX13_greatestOf 1 (some .int) [.int p0] g h0 (some (.int (pX13_greatestOf p0))) g h0 := by
  obtain ⟨r0, hf⟩ : ∃ z, pX13_greatestOf p0 = z := ⟨_, rfl⟩
  rw [hf]
  refine Ctr.ofZ (lv := [(0, .int p0)]) (by decide +kernel) (by simp [cat_i, cat_l, cat_d, cat_rf]) rfl fun X Z => ?_
  unfold pX13_greatestOf at hf
  refine J_iload_n Z.1 0 dX13_greatestOf_0 rfl rfl ?_
  refine J_if_ne Z.1 9 dX13_greatestOf_1 (by decide) (fun c1 => ?_) (fun c1 => ?_)
  · rw [if_neg c1] at hf
    refine J_iload_n Z.1 0 dX13_greatestOf_9 rfl rfl ?_
    refine J_iconst Z.1 (v := 1) (by decide) dX13_greatestOf_10 ?_
    refine J_icmp_ne Z.1 19 dX13_greatestOf_11 (by decide) (fun c2 => ?_) (fun c2 => ?_)
    · rw [if_neg c2] at hf
      refine J_iload_n Z.1 0 dX13_greatestOf_19 rfl rfl ?_
      refine J_iconst Z.1 (v := 2) (by decide) dX13_greatestOf_20 ?_
      refine J_icmp_ne Z.1 29 dX13_greatestOf_21 (by decide) (fun c3 => ?_) (fun c3 => ?_)
      · rw [if_neg c3] at hf
        refine J_ldcw Z.1 q_1866 dX13_greatestOf_29 ?_
        cases hf
        exact J_iret Z.1 Z.2.2.2.2.2 dX13_greatestOf_32
      · rw [if_pos c3] at hf
        refine J_bipush Z.1 (v := 12) (by decide) dX13_greatestOf_24 ?_
        refine J_goto Z.1 32 dX13_greatestOf_26 (by decide) ?_
        cases hf
        exact J_iret Z.1 Z.2.2.2.2.2 dX13_greatestOf_32
    · rw [if_pos c2] at hf
      refine J_bipush Z.1 (v := 16) (by decide) dX13_greatestOf_14 ?_
      refine J_goto Z.1 32 dX13_greatestOf_16 (by decide) ?_
      cases hf
      exact J_iret Z.1 Z.2.2.2.2.2 dX13_greatestOf_32
  · rw [if_pos c1] at hf
    refine J_bipush Z.1 (v := 16) (by decide) dX13_greatestOf_4 ?_
    refine J_goto Z.1 32 dX13_greatestOf_6 (by decide) ?_
    cases hf
    exact J_iret Z.1 Z.2.2.2.2.2 dX13_greatestOf_32
theorem dX13_rule_0 : decode cX13_rule 0 = .ok (.aload_n 0, 1) := by decide +kernel
theorem dX13_rule_1 : decode cX13_rule 1 = .ok (.iconst 0, 1) := by decide +kernel
theorem dX13_rule_2 : decode cX13_rule 2 = .ok (.putfield 71, 3) := by decide +kernel
theorem dX13_rule_5 : decode cX13_rule 5 = .ok (.aload_n 0, 1) := by decide +kernel
theorem dX13_rule_6 : decode cX13_rule 6 = .ok (.iconst 0, 1) := by decide +kernel
theorem dX13_rule_7 : decode cX13_rule 7 = .ok (.putfield 74, 3) := by decide +kernel
theorem dX13_rule_10 : decode cX13_rule 10 = .ok (.iload_n 1, 1) := by decide +kernel
theorem dX13_rule_11 : decode cX13_rule 11 = .ok (.i2l, 1) := by decide +kernel
theorem dX13_rule_12 : decode cX13_rule 12 = .ok (.lconst 0, 1) := by decide +kernel
theorem dX13_rule_13 : decode cX13_rule 13 = .ok (.ldc2_w 102, 3) := by decide +kernel
theorem dX13_rule_16 : decode cX13_rule 16 = .ok (.invokestatic 104, 3) := by decide +kernel
theorem dX13_rule_19 : decode cX13_rule 19 = .ok (.ifCond .eq 21, 3) := by decide +kernel
theorem dX13_rule_22 : decode cX13_rule 22 = .ok (.iload_n 2, 1) := by decide +kernel
theorem dX13_rule_23 : decode cX13_rule 23 = .ok (.i2l, 1) := by decide +kernel
theorem dX13_rule_24 : decode cX13_rule 24 = .ok (.iload_n 1, 1) := by decide +kernel
theorem dX13_rule_25 : decode cX13_rule 25 = .ok (.invokestatic 339, 3) := by decide +kernel
theorem dX13_rule_28 : decode cX13_rule 28 = .ok (.i2l, 1) := by decide +kernel
theorem dX13_rule_29 : decode cX13_rule 29 = .ok (.iload_n 1, 1) := by decide +kernel
theorem dX13_rule_30 : decode cX13_rule 30 = .ok (.invokestatic 342, 3) := by decide +kernel
theorem dX13_rule_33 : decode cX13_rule 33 = .ok (.i2l, 1) := by decide +kernel
theorem dX13_rule_34 : decode cX13_rule 34 = .ok (.invokestatic 104, 3) := by decide +kernel
theorem dX13_rule_37 : decode cX13_rule 37 = .ok (.ifCond .ne 9, 3) := by decide +kernel
theorem dX13_rule_40 : decode cX13_rule 40 = .ok (.aload_n 0, 1) := by decide +kernel
theorem dX13_rule_41 : decode cX13_rule 41 = .ok (.iconst 5, 1) := by decide +kernel
theorem dX13_rule_42 : decode cX13_rule 42 = .ok (.invokevirtual 84, 3) := by decide +kernel
theorem dX13_rule_45 : decode cX13_rule 45 = .ok (.ireturn, 1) := by decide +kernel
theorem dX13_rule_46 : decode cX13_rule 46 = .ok (.aload_n 0, 1) := by decide +kernel
theorem dX13_rule_47 : decode cX13_rule 47 = .ok (.getfield 31, 3) := by decide +kernel
theorem dX13_rule_50 : decode cX13_rule 50 = .ok (.iload_n 1, 1) := by decide +kernel
theorem dX13_rule_51 : decode cX13_rule 51 = .ok (.iload_n 2, 1) := by decide +kernel
theorem dX13_rule_52 : decode cX13_rule 52 = .ok (.iastore, 1) := by decide +kernel
theorem dX13_rule_53 : decode cX13_rule 53 = .ok (.iconst 1, 1) := by decide +kernel
theorem dX13_rule_54 : decode cX13_rule 54 = .ok (.ireturn, 1) := by decide +kernel
def pX13_rule_b40 (g : MT) (this : Nat) (p1 : Int32) (p2 : Int32) (h : CT) : Option ((Int32) × CT) := bd2 (pX13_no g h this 5) fun x3 h1 => (bz x3 (some (x3, h1)))
set_option maxRecDepth 10000 in
set_option maxHeartbeats 4000000 in
theorem pX13_rule_b40_ok {X : Cx} {G : Gx} {dk : Nat} {g : MT} {r0 : Int32} {h0 : CT} {this : Nat} {p1 : Int32} {p2 : Int32} (Z : Zx X G cX13_rule RX13 3 dk (some .boolean) (some (.int r0)) g h0) (hK : 1 ≤ dk) (t0 : gT g this = 12) (h : CT) (hf : pX13_rule_b40 g this p1 p2 h = some (r0, h0)) : J X g h 40 [(0, va_rf (some this))] [] := by
  unfold pX13_rule_b40 at hf
  refine J_aload_n Z.1 0 dX13_rule_40 rfl rfl ?_
  refine J_iconst Z.1 (v := 5) (by decide) dX13_rule_41 ?_
  replace hf := bd2_i hf
  obtain ⟨x3, h1, q2, hf⟩ := hf
  refine J_callV (ci := 11) (as := [.int 5]) (rest := []) (sy := [.int x3]) Z.1 dX13_rule_42 cw_X13_84 (pX13_no_ok G (dk - 1) (by omega) q2) rfl rfl t0 (zG Z) rfl (by decide) (zF Z (by omega)) (zO Z (by omega) (by decide)) (zM _) Z.2.1 Z.2.1 rfl rfl ?_
  replace hf := bz_i hf
  obtain ⟨z4, hf⟩ := hf
  cases hf
  exact J_zret Z.1 Z.2.2.2.2.2 (z_n z4) dX13_rule_45
def pX13_rule (g : MT) (h : CT) (this : Nat) (p1 : Int32) (p2 : Int32) : Option ((Int32) × CT) := tg g this 12 (lt (sI h this 1 0) fun h1 => (lt (sI h1 this 0 0) fun h2 => (if (pX13_isIn (Int32.toInt64 p1) 0 3) = 0 then pX13_rule_b40 g this p1 p2  h2 else if (pX13_isIn (Int32.toInt64 p2) (Int32.toInt64 (pX13_leastOf p1)) (Int32.toInt64 (pX13_greatestOf p1))) = 0 then pX13_rule_b40 g this p1 p2  h2 else lt (hR h2 this 19) fun r5 => (nn r5 fun a5 => (tg g a5 20 (ix (gL g a5) p1 (lt (sI h2 a5 (Int32.toNatClampNeg p1) p2) fun h8 => (some (1, h8)))))))))
set_option maxRecDepth 10000 in
set_option maxHeartbeats 4000000 in
theorem pX13_rule_ok (G : Gx) (dk : Nat) (hK : 1 ≤ dk) {g : MT} {h h0 : CT} {this : Nat} {p1 : Int32} {p2 : Int32} {r0 : Int32} (hf : pX13_rule g h this p1 p2 = some (r0, h0)) : Ctr G dk yX13_rule cX13_rule 3 (some .boolean) [va_rf (some this), .int p1, .int p2] g h (some (.int r0)) g h0 := by
  refine Ctr.ofZ (lv := [(0, va_rf (some this)), (1, .int p1), (2, .int p2)]) (by decide +kernel) (by simp [cat_i, cat_l, cat_d, cat_rf]) rfl fun X Z => ?_
  unfold pX13_rule at hf
  replace hf := tg_i hf
  obtain ⟨t0, hf⟩ := hf
  refine J_aload_n Z.1 0 dX13_rule_0 rfl rfl ?_
  refine J_iconst Z.1 (v := 0) (by decide) dX13_rule_1 ?_
  refine J_putI Z.1 dX13_rule_2 fl_X13_71 (fun q => by cases q) t0 rfl rfl (congrArg Value.int (hI_s _ _ _ _)) ?_
  refine J_th (fun h1 eh1 => ?_)
  replace hf := lt_i hf h1 eh1
  refine J_aload_n Z.1 0 dX13_rule_5 rfl rfl ?_
  refine J_iconst Z.1 (v := 0) (by decide) dX13_rule_6 ?_
  refine J_putI Z.1 dX13_rule_7 fl_X13_74 (fun q => by cases q) t0 rfl rfl (congrArg Value.int (hI_s _ _ _ _)) ?_
  refine J_th (fun h2 eh2 => ?_)
  replace hf := lt_i hf h2 eh2
  refine J_iload_n Z.1 1 dX13_rule_10 rfl rfl ?_
  refine J_i2l Z.1 dX13_rule_11 ?_
  refine J_lconst Z.1 (v := 0) (by decide) dX13_rule_12 ?_
  refine J_ldc2 Z.1 q_1782 dX13_rule_13 ?_
  refine J_callS (as := [.long (Int32.toInt64 p1), .long 0, .long 3]) (rest := []) (sy := [.int (pX13_isIn (Int32.toInt64 p1) 0 3)]) Z.1 dX13_rule_16 cw_X13_104 (pX13_isIn_ok G (dk - 1) (by omega) g h2 (Int32.toInt64 p1) 0 3) (zG Z) rfl (by decide) (zF Z (by omega)) (zO Z (by omega) (by decide)) (zM _) Z.2.1 Z.2.1 rfl rfl ?_
  refine J_if_eq Z.1 40 dX13_rule_19 (by decide) (fun c3 => ?_) (fun c3 => ?_)
  · rw [if_pos c3] at hf
    refine J_lv [0] rfl ?_
    exact pX13_rule_b40_ok Z hK t0  _ hf
  · rw [if_neg c3] at hf
    refine J_iload_n Z.1 2 dX13_rule_22 rfl rfl ?_
    refine J_i2l Z.1 dX13_rule_23 ?_
    refine J_iload_n Z.1 1 dX13_rule_24 rfl rfl ?_
    refine J_callS (as := [.int p1]) (rest := [.long (Int32.toInt64 p2)]) (sy := [.int (pX13_leastOf p1), .long (Int32.toInt64 p2)]) Z.1 dX13_rule_25 cw_X13_339 (pX13_leastOf_ok G (dk - 1) (by omega) g h2 p1) (zG Z) rfl (by simp [cat_i, cat_l, cat_d, cat_rf]) (zF Z (by omega)) (zO Z (by omega) (by decide)) (zM _) Z.2.1 Z.2.1 rfl rfl ?_
    refine J_i2l Z.1 dX13_rule_28 ?_
    refine J_iload_n Z.1 1 dX13_rule_29 rfl rfl ?_
    refine J_callS (as := [.int p1]) (rest := [.long (Int32.toInt64 (pX13_leastOf p1)), .long (Int32.toInt64 p2)]) (sy := [.int (pX13_greatestOf p1), .long (Int32.toInt64 (pX13_leastOf p1)), .long (Int32.toInt64 p2)]) Z.1 dX13_rule_30 cw_X13_342 (pX13_greatestOf_ok G (dk - 1) (by omega) g h2 p1) (zG Z) rfl (by simp [cat_i, cat_l, cat_d, cat_rf]) (zF Z (by omega)) (zO Z (by omega) (by decide)) (zM _) Z.2.1 Z.2.1 rfl rfl ?_
    refine J_i2l Z.1 dX13_rule_33 ?_
    refine J_callS (as := [.long (Int32.toInt64 p2), .long (Int32.toInt64 (pX13_leastOf p1)), .long (Int32.toInt64 (pX13_greatestOf p1))]) (rest := []) (sy := [.int (pX13_isIn (Int32.toInt64 p2) (Int32.toInt64 (pX13_leastOf p1)) (Int32.toInt64 (pX13_greatestOf p1)))]) Z.1 dX13_rule_34 cw_X13_104 (pX13_isIn_ok G (dk - 1) (by omega) g h2 (Int32.toInt64 p2) (Int32.toInt64 (pX13_leastOf p1)) (Int32.toInt64 (pX13_greatestOf p1))) (zG Z) rfl (by decide) (zF Z (by omega)) (zO Z (by omega) (by decide)) (zM _) Z.2.1 Z.2.1 rfl rfl ?_
    refine J_if_ne Z.1 46 dX13_rule_37 (by decide) (fun c4 => ?_) (fun c4 => ?_)
    · rw [if_neg c4] at hf
      refine J_aload_n Z.1 0 dX13_rule_46 rfl rfl ?_
      refine J_get (v := va_rf (hR h2 this 19)) Z.1 dX13_rule_47 fl_X13_31 t0 rfl ?_
      refine J_tr (fun r5 er5 => ?_)
      replace hf := lt_i hf r5 er5
      refine J_iload_n Z.1 1 dX13_rule_50 rfl rfl ?_
      refine J_iload_n Z.1 2 dX13_rule_51 rfl rfl ?_
      replace hf := nn_i hf
      obtain ⟨a5, rfl, hf⟩ := hf
      replace hf := tg_i hf
      obtain ⟨t6, hf⟩ := hf
      replace hf := ix_i hf
      obtain ⟨i7, hf⟩ := hf
      refine J_iastore Z.1 dX13_rule_52 t6 i7 ?_
      refine J_th (fun h8 eh8 => ?_)
      replace hf := lt_i hf h8 eh8
      refine J_iconst Z.1 (v := 1) (by decide) dX13_rule_53 ?_
      cases hf
      exact J_zret Z.1 Z.2.2.2.2.2 (z_n (Or.inr rfl)) dX13_rule_54
    · rw [if_pos c4] at hf
      refine J_lv [0] rfl ?_
      exact pX13_rule_b40_ok Z hK t0  _ hf
theorem dX13_isMemory_0 : decode cX13_isMemory 0 = .ok (.iload_n 0, 1) := by decide +kernel
theorem dX13_isMemory_1 : decode cX13_isMemory 1 = .ok (.iconst 3, 1) := by decide +kernel
theorem dX13_isMemory_2 : decode cX13_isMemory 2 = .ok (.if_icmp .lt 13, 3) := by decide +kernel
theorem dX13_isMemory_5 : decode cX13_isMemory 5 = .ok (.iload_n 0, 1) := by decide +kernel
theorem dX13_isMemory_6 : decode cX13_isMemory 6 = .ok (.bipush 6, 2) := by decide +kernel
theorem dX13_isMemory_8 : decode cX13_isMemory 8 = .ok (.if_icmp .gt 7, 3) := by decide +kernel
theorem dX13_isMemory_11 : decode cX13_isMemory 11 = .ok (.iconst 1, 1) := by decide +kernel
theorem dX13_isMemory_12 : decode cX13_isMemory 12 = .ok (.goto 4, 3) := by decide +kernel
theorem dX13_isMemory_15 : decode cX13_isMemory 15 = .ok (.iconst 0, 1) := by decide +kernel
theorem dX13_isMemory_16 : decode cX13_isMemory 16 = .ok (.ireturn, 1) := by decide +kernel
def pX13_isMemory (p0 : Int32) : Int32 := if p0 < 3 then 0 else if 6 < p0 then 0 else 1
set_option maxRecDepth 10000 in
set_option maxHeartbeats 4000000 in
theorem pX13_isMemory_ok (G : Gx) (dk : Nat) (hK : 0 ≤ dk) (g : MT) (h0 : CT) (p0 : Int32) : Ctr G dk yX13_isMemory cX13_isMemory 1 (some .boolean) [.int p0] g h0 (some (.int (pX13_isMemory p0))) g h0 := by
  obtain ⟨r0, hf⟩ : ∃ z, pX13_isMemory p0 = z := ⟨_, rfl⟩
  rw [hf]
  refine Ctr.ofZ (lv := [(0, .int p0)]) (by decide +kernel) (by simp [cat_i, cat_l, cat_d, cat_rf]) rfl fun X Z => ?_
  unfold pX13_isMemory at hf
  refine J_iload_n Z.1 0 dX13_isMemory_0 rfl rfl ?_
  refine J_iconst Z.1 (v := 3) (by decide) dX13_isMemory_1 ?_
  refine J_icmp_lt Z.1 15 dX13_isMemory_2 (by decide) (fun c1 => ?_) (fun c1 => ?_)
  · rw [if_pos c1] at hf
    refine J_iconst Z.1 (v := 0) (by decide) dX13_isMemory_15 ?_
    cases hf
    exact J_zret Z.1 Z.2.2.2.2.2 (z_n (Or.inl rfl)) dX13_isMemory_16
  · rw [if_neg c1] at hf
    refine J_iload_n Z.1 0 dX13_isMemory_5 rfl rfl ?_
    refine J_bipush Z.1 (v := 6) (by decide) dX13_isMemory_6 ?_
    refine J_icmp_gt Z.1 15 dX13_isMemory_8 (by decide) (fun c2 => ?_) (fun c2 => ?_)
    · rw [if_pos c2] at hf
      refine J_iconst Z.1 (v := 0) (by decide) dX13_isMemory_15 ?_
      cases hf
      exact J_zret Z.1 Z.2.2.2.2.2 (z_n (Or.inl rfl)) dX13_isMemory_16
    · rw [if_neg c2] at hf
      refine J_iconst Z.1 (v := 1) (by decide) dX13_isMemory_11 ?_
      refine J_goto Z.1 16 dX13_isMemory_12 (by decide) ?_
      cases hf
      exact J_zret Z.1 Z.2.2.2.2.2 (z_n (Or.inr rfl)) dX13_isMemory_16
theorem pX13_isMemory_z (p0 : Int32) : is01 (pX13_isMemory p0) := by
  unfold pX13_isMemory
  (try split) <;> (try split) <;> (try split) <;> (try split) <;> (try split) <;> (try split) <;> (try split) <;> (try split) <;> first | exact Or.inl rfl | exact Or.inr rfl
theorem dX13_isIndexed_0 : decode cX13_isIndexed 0 = .ok (.iload_n 0, 1) := by decide +kernel
theorem dX13_isIndexed_1 : decode cX13_isIndexed 1 = .ok (.iconst 5, 1) := by decide +kernel
theorem dX13_isIndexed_2 : decode cX13_isIndexed 2 = .ok (.if_icmp .eq 9, 3) := by decide +kernel
theorem dX13_isIndexed_5 : decode cX13_isIndexed 5 = .ok (.iload_n 0, 1) := by decide +kernel
theorem dX13_isIndexed_6 : decode cX13_isIndexed 6 = .ok (.bipush 6, 2) := by decide +kernel
theorem dX13_isIndexed_8 : decode cX13_isIndexed 8 = .ok (.if_icmp .ne 7, 3) := by decide +kernel
theorem dX13_isIndexed_11 : decode cX13_isIndexed 11 = .ok (.iconst 1, 1) := by decide +kernel
theorem dX13_isIndexed_12 : decode cX13_isIndexed 12 = .ok (.goto 4, 3) := by decide +kernel
theorem dX13_isIndexed_15 : decode cX13_isIndexed 15 = .ok (.iconst 0, 1) := by decide +kernel
theorem dX13_isIndexed_16 : decode cX13_isIndexed 16 = .ok (.ireturn, 1) := by decide +kernel
def pX13_isIndexed_b11 (p0 : Int32)  : Int32 := 1
set_option maxRecDepth 10000 in
set_option maxHeartbeats 4000000 in
theorem pX13_isIndexed_b11_ok {X : Cx} {G : Gx} {dk : Nat} {g : MT} {r0 : Int32} {h0 : CT} {p0 : Int32} (Z : Zx X G cX13_isIndexed RX13 1 dk (some .boolean) (some (.int r0)) g h0) (hK : 0 ≤ dk)  (hf : pX13_isIndexed_b11 p0 = r0) : J X g h0 11 [] [] := by
  unfold pX13_isIndexed_b11 at hf
  refine J_iconst Z.1 (v := 1) (by decide) dX13_isIndexed_11 ?_
  refine J_goto Z.1 16 dX13_isIndexed_12 (by decide) ?_
  cases hf
  exact J_zret Z.1 Z.2.2.2.2.2 (z_n (Or.inr rfl)) dX13_isIndexed_16
def pX13_isIndexed (p0 : Int32) : Int32 := if p0 = 5 then pX13_isIndexed_b11 p0   else if p0 = 6 then pX13_isIndexed_b11 p0   else 0
set_option maxRecDepth 10000 in
set_option maxHeartbeats 4000000 in
theorem pX13_isIndexed_ok (G : Gx) (dk : Nat) (hK : 0 ≤ dk) (g : MT) (h0 : CT) (p0 : Int32) : Ctr G dk yX13_isIndexed cX13_isIndexed 1 (some .boolean) [.int p0] g h0 (some (.int (pX13_isIndexed p0))) g h0 := by
  obtain ⟨r0, hf⟩ : ∃ z, pX13_isIndexed p0 = z := ⟨_, rfl⟩
  rw [hf]
  refine Ctr.ofZ (lv := [(0, .int p0)]) (by decide +kernel) (by simp [cat_i, cat_l, cat_d, cat_rf]) rfl fun X Z => ?_
  unfold pX13_isIndexed at hf
  refine J_iload_n Z.1 0 dX13_isIndexed_0 rfl rfl ?_
  refine J_iconst Z.1 (v := 5) (by decide) dX13_isIndexed_1 ?_
  refine J_icmp_eq Z.1 11 dX13_isIndexed_2 (by decide) (fun c1 => ?_) (fun c1 => ?_)
  · rw [if_pos c1] at hf
    refine J_lv [] rfl ?_
    exact pX13_isIndexed_b11_ok Z hK   hf
  · rw [if_neg c1] at hf
    refine J_iload_n Z.1 0 dX13_isIndexed_5 rfl rfl ?_
    refine J_bipush Z.1 (v := 6) (by decide) dX13_isIndexed_6 ?_
    refine J_icmp_ne Z.1 15 dX13_isIndexed_8 (by decide) (fun c2 => ?_) (fun c2 => ?_)
    · rw [if_neg c2] at hf
      refine J_iconst Z.1 (v := 0) (by decide) dX13_isIndexed_15 ?_
      cases hf
      exact J_zret Z.1 Z.2.2.2.2.2 (z_n (Or.inl rfl)) dX13_isIndexed_16
    · rw [if_pos c2] at hf
      refine J_lv [] rfl ?_
      exact pX13_isIndexed_b11_ok Z hK   hf
theorem pX13_isIndexed_z (p0 : Int32) : is01 (pX13_isIndexed p0) := by
  unfold pX13_isIndexed
  simp only [pX13_isIndexed_b11]
  (try split) <;> (try split) <;> (try split) <;> (try split) <;> (try split) <;> (try split) <;> (try split) <;> (try split) <;> first | exact Or.inl rfl | exact Or.inr rfl | exact pX13_isIn_z _ _ _
theorem dX13_isTwo_0 : decode cX13_isTwo 0 = .ok (.iload_n 0, 1) := by decide +kernel
theorem dX13_isTwo_1 : decode cX13_isTwo 1 = .ok (.bipush 7, 2) := by decide +kernel
theorem dX13_isTwo_3 : decode cX13_isTwo 3 = .ok (.if_icmp .lt 13, 3) := by decide +kernel
theorem dX13_isTwo_6 : decode cX13_isTwo 6 = .ok (.iload_n 0, 1) := by decide +kernel
theorem dX13_isTwo_7 : decode cX13_isTwo 7 = .ok (.bipush 13, 2) := by decide +kernel
theorem dX13_isTwo_9 : decode cX13_isTwo 9 = .ok (.if_icmp .gt 7, 3) := by decide +kernel
theorem dX13_isTwo_12 : decode cX13_isTwo 12 = .ok (.iconst 1, 1) := by decide +kernel
theorem dX13_isTwo_13 : decode cX13_isTwo 13 = .ok (.goto 4, 3) := by decide +kernel
theorem dX13_isTwo_16 : decode cX13_isTwo 16 = .ok (.iconst 0, 1) := by decide +kernel
theorem dX13_isTwo_17 : decode cX13_isTwo 17 = .ok (.ireturn, 1) := by decide +kernel
def pX13_isTwo (p0 : Int32) : Int32 := if p0 < 7 then 0 else if 13 < p0 then 0 else 1
set_option maxRecDepth 10000 in
set_option maxHeartbeats 4000000 in
theorem pX13_isTwo_ok (G : Gx) (dk : Nat) (hK : 0 ≤ dk) (g : MT) (h0 : CT) (p0 : Int32) : Ctr G dk yX13_isTwo cX13_isTwo 1 (some .boolean) [.int p0] g h0 (some (.int (pX13_isTwo p0))) g h0 := by
  obtain ⟨r0, hf⟩ : ∃ z, pX13_isTwo p0 = z := ⟨_, rfl⟩
  rw [hf]
  refine Ctr.ofZ (lv := [(0, .int p0)]) (by decide +kernel) (by simp [cat_i, cat_l, cat_d, cat_rf]) rfl fun X Z => ?_
  unfold pX13_isTwo at hf
  refine J_iload_n Z.1 0 dX13_isTwo_0 rfl rfl ?_
  refine J_bipush Z.1 (v := 7) (by decide) dX13_isTwo_1 ?_
  refine J_icmp_lt Z.1 16 dX13_isTwo_3 (by decide) (fun c1 => ?_) (fun c1 => ?_)
  · rw [if_pos c1] at hf
    refine J_iconst Z.1 (v := 0) (by decide) dX13_isTwo_16 ?_
    cases hf
    exact J_zret Z.1 Z.2.2.2.2.2 (z_n (Or.inl rfl)) dX13_isTwo_17
  · rw [if_neg c1] at hf
    refine J_iload_n Z.1 0 dX13_isTwo_6 rfl rfl ?_
    refine J_bipush Z.1 (v := 13) (by decide) dX13_isTwo_7 ?_
    refine J_icmp_gt Z.1 16 dX13_isTwo_9 (by decide) (fun c2 => ?_) (fun c2 => ?_)
    · rw [if_pos c2] at hf
      refine J_iconst Z.1 (v := 0) (by decide) dX13_isTwo_16 ?_
      cases hf
      exact J_zret Z.1 Z.2.2.2.2.2 (z_n (Or.inl rfl)) dX13_isTwo_17
    · rw [if_neg c2] at hf
      refine J_iconst Z.1 (v := 1) (by decide) dX13_isTwo_12 ?_
      refine J_goto Z.1 17 dX13_isTwo_13 (by decide) ?_
      cases hf
      exact J_zret Z.1 Z.2.2.2.2.2 (z_n (Or.inr rfl)) dX13_isTwo_17
theorem pX13_isTwo_z (p0 : Int32) : is01 (pX13_isTwo p0) := by
  unfold pX13_isTwo
  (try split) <;> (try split) <;> (try split) <;> (try split) <;> (try split) <;> (try split) <;> (try split) <;> (try split) <;> first | exact Or.inl rfl | exact Or.inr rfl
theorem dX13_isReckoned_0 : decode cX13_isReckoned 0 = .ok (.iload_n 0, 1) := by decide +kernel
theorem dX13_isReckoned_1 : decode cX13_isReckoned 1 = .ok (.bipush 7, 2) := by decide +kernel
theorem dX13_isReckoned_3 : decode cX13_isReckoned 3 = .ok (.if_icmp .lt 13, 3) := by decide +kernel
theorem dX13_isReckoned_6 : decode cX13_isReckoned 6 = .ok (.iload_n 0, 1) := by decide +kernel
theorem dX13_isReckoned_7 : decode cX13_isReckoned 7 = .ok (.bipush 16, 2) := by decide +kernel
theorem dX13_isReckoned_9 : decode cX13_isReckoned 9 = .ok (.if_icmp .gt 7, 3) := by decide +kernel
theorem dX13_isReckoned_12 : decode cX13_isReckoned 12 = .ok (.iconst 1, 1) := by decide +kernel
theorem dX13_isReckoned_13 : decode cX13_isReckoned 13 = .ok (.goto 4, 3) := by decide +kernel
theorem dX13_isReckoned_16 : decode cX13_isReckoned 16 = .ok (.iconst 0, 1) := by decide +kernel
theorem dX13_isReckoned_17 : decode cX13_isReckoned 17 = .ok (.ireturn, 1) := by decide +kernel
def pX13_isReckoned (p0 : Int32) : Int32 := if p0 < 7 then 0 else if 16 < p0 then 0 else 1
set_option maxRecDepth 10000 in
set_option maxHeartbeats 4000000 in
theorem pX13_isReckoned_ok (G : Gx) (dk : Nat) (hK : 0 ≤ dk) (g : MT) (h0 : CT) (p0 : Int32) : Ctr G dk yX13_isReckoned cX13_isReckoned 1 (some .boolean) [.int p0] g h0 (some (.int (pX13_isReckoned p0))) g h0 := by
  obtain ⟨r0, hf⟩ : ∃ z, pX13_isReckoned p0 = z := ⟨_, rfl⟩
  rw [hf]
  refine Ctr.ofZ (lv := [(0, .int p0)]) (by decide +kernel) (by simp [cat_i, cat_l, cat_d, cat_rf]) rfl fun X Z => ?_
  unfold pX13_isReckoned at hf
  refine J_iload_n Z.1 0 dX13_isReckoned_0 rfl rfl ?_
  refine J_bipush Z.1 (v := 7) (by decide) dX13_isReckoned_1 ?_
  refine J_icmp_lt Z.1 16 dX13_isReckoned_3 (by decide) (fun c1 => ?_) (fun c1 => ?_)
  · rw [if_pos c1] at hf
    refine J_iconst Z.1 (v := 0) (by decide) dX13_isReckoned_16 ?_
    cases hf
    exact J_zret Z.1 Z.2.2.2.2.2 (z_n (Or.inl rfl)) dX13_isReckoned_17
  · rw [if_neg c1] at hf
    refine J_iload_n Z.1 0 dX13_isReckoned_6 rfl rfl ?_
    refine J_bipush Z.1 (v := 16) (by decide) dX13_isReckoned_7 ?_
    refine J_icmp_gt Z.1 16 dX13_isReckoned_9 (by decide) (fun c2 => ?_) (fun c2 => ?_)
    · rw [if_pos c2] at hf
      refine J_iconst Z.1 (v := 0) (by decide) dX13_isReckoned_16 ?_
      cases hf
      exact J_zret Z.1 Z.2.2.2.2.2 (z_n (Or.inl rfl)) dX13_isReckoned_17
    · rw [if_neg c2] at hf
      refine J_iconst Z.1 (v := 1) (by decide) dX13_isReckoned_12 ?_
      refine J_goto Z.1 17 dX13_isReckoned_13 (by decide) ?_
      cases hf
      exact J_zret Z.1 Z.2.2.2.2.2 (z_n (Or.inr rfl)) dX13_isReckoned_17
theorem pX13_isReckoned_z (p0 : Int32) : is01 (pX13_isReckoned p0) := by
  unfold pX13_isReckoned
  (try split) <;> (try split) <;> (try split) <;> (try split) <;> (try split) <;> (try split) <;> (try split) <;> (try split) <;> first | exact Or.inl rfl | exact Or.inr rfl
theorem dX13_isCompared_0 : decode cX13_isCompared 0 = .ok (.iload_n 0, 1) := by decide +kernel
theorem dX13_isCompared_1 : decode cX13_isCompared 1 = .ok (.bipush 17, 2) := by decide +kernel
theorem dX13_isCompared_3 : decode cX13_isCompared 3 = .ok (.if_icmp .lt 13, 3) := by decide +kernel
theorem dX13_isCompared_6 : decode cX13_isCompared 6 = .ok (.iload_n 0, 1) := by decide +kernel
theorem dX13_isCompared_7 : decode cX13_isCompared 7 = .ok (.bipush 19, 2) := by decide +kernel
theorem dX13_isCompared_9 : decode cX13_isCompared 9 = .ok (.if_icmp .gt 7, 3) := by decide +kernel
theorem dX13_isCompared_12 : decode cX13_isCompared 12 = .ok (.iconst 1, 1) := by decide +kernel
theorem dX13_isCompared_13 : decode cX13_isCompared 13 = .ok (.goto 4, 3) := by decide +kernel
theorem dX13_isCompared_16 : decode cX13_isCompared 16 = .ok (.iconst 0, 1) := by decide +kernel
theorem dX13_isCompared_17 : decode cX13_isCompared 17 = .ok (.ireturn, 1) := by decide +kernel
def pX13_isCompared (p0 : Int32) : Int32 := if p0 < 17 then 0 else if 19 < p0 then 0 else 1
set_option maxRecDepth 10000 in
set_option maxHeartbeats 4000000 in
theorem pX13_isCompared_ok (G : Gx) (dk : Nat) (hK : 0 ≤ dk) (g : MT) (h0 : CT) (p0 : Int32) : Ctr G dk yX13_isCompared cX13_isCompared 1 (some .boolean) [.int p0] g h0 (some (.int (pX13_isCompared p0))) g h0 := by
  obtain ⟨r0, hf⟩ : ∃ z, pX13_isCompared p0 = z := ⟨_, rfl⟩
  rw [hf]
  refine Ctr.ofZ (lv := [(0, .int p0)]) (by decide +kernel) (by simp [cat_i, cat_l, cat_d, cat_rf]) rfl fun X Z => ?_
  unfold pX13_isCompared at hf
  refine J_iload_n Z.1 0 dX13_isCompared_0 rfl rfl ?_
  refine J_bipush Z.1 (v := 17) (by decide) dX13_isCompared_1 ?_
  refine J_icmp_lt Z.1 16 dX13_isCompared_3 (by decide) (fun c1 => ?_) (fun c1 => ?_)
  · rw [if_pos c1] at hf
    refine J_iconst Z.1 (v := 0) (by decide) dX13_isCompared_16 ?_
    cases hf
    exact J_zret Z.1 Z.2.2.2.2.2 (z_n (Or.inl rfl)) dX13_isCompared_17
  · rw [if_neg c1] at hf
    refine J_iload_n Z.1 0 dX13_isCompared_6 rfl rfl ?_
    refine J_bipush Z.1 (v := 19) (by decide) dX13_isCompared_7 ?_
    refine J_icmp_gt Z.1 16 dX13_isCompared_9 (by decide) (fun c2 => ?_) (fun c2 => ?_)
    · rw [if_pos c2] at hf
      refine J_iconst Z.1 (v := 0) (by decide) dX13_isCompared_16 ?_
      cases hf
      exact J_zret Z.1 Z.2.2.2.2.2 (z_n (Or.inl rfl)) dX13_isCompared_17
    · rw [if_neg c2] at hf
      refine J_iconst Z.1 (v := 1) (by decide) dX13_isCompared_12 ?_
      refine J_goto Z.1 17 dX13_isCompared_13 (by decide) ?_
      cases hf
      exact J_zret Z.1 Z.2.2.2.2.2 (z_n (Or.inr rfl)) dX13_isCompared_17
theorem pX13_isCompared_z (p0 : Int32) : is01 (pX13_isCompared p0) := by
  unfold pX13_isCompared
  (try split) <;> (try split) <;> (try split) <;> (try split) <;> (try split) <;> (try split) <;> (try split) <;> (try split) <;> first | exact Or.inl rfl | exact Or.inr rfl
theorem dX13_isFolded_0 : decode cX13_isFolded 0 = .ok (.iload_n 0, 1) := by decide +kernel
theorem dX13_isFolded_1 : decode cX13_isFolded 1 = .ok (.bipush 23, 2) := by decide +kernel
theorem dX13_isFolded_3 : decode cX13_isFolded 3 = .ok (.if_icmp .eq 9, 3) := by decide +kernel
theorem dX13_isFolded_6 : decode cX13_isFolded 6 = .ok (.iload_n 0, 1) := by decide +kernel
theorem dX13_isFolded_7 : decode cX13_isFolded 7 = .ok (.bipush 24, 2) := by decide +kernel
theorem dX13_isFolded_9 : decode cX13_isFolded 9 = .ok (.if_icmp .ne 7, 3) := by decide +kernel
theorem dX13_isFolded_12 : decode cX13_isFolded 12 = .ok (.iconst 1, 1) := by decide +kernel
theorem dX13_isFolded_13 : decode cX13_isFolded 13 = .ok (.goto 4, 3) := by decide +kernel
theorem dX13_isFolded_16 : decode cX13_isFolded 16 = .ok (.iconst 0, 1) := by decide +kernel
theorem dX13_isFolded_17 : decode cX13_isFolded 17 = .ok (.ireturn, 1) := by decide +kernel
def pX13_isFolded_b12 (p0 : Int32)  : Int32 := 1
set_option maxRecDepth 10000 in
set_option maxHeartbeats 4000000 in
theorem pX13_isFolded_b12_ok {X : Cx} {G : Gx} {dk : Nat} {g : MT} {r0 : Int32} {h0 : CT} {p0 : Int32} (Z : Zx X G cX13_isFolded RX13 1 dk (some .boolean) (some (.int r0)) g h0) (hK : 0 ≤ dk)  (hf : pX13_isFolded_b12 p0 = r0) : J X g h0 12 [] [] := by
  unfold pX13_isFolded_b12 at hf
  refine J_iconst Z.1 (v := 1) (by decide) dX13_isFolded_12 ?_
  refine J_goto Z.1 17 dX13_isFolded_13 (by decide) ?_
  cases hf
  exact J_zret Z.1 Z.2.2.2.2.2 (z_n (Or.inr rfl)) dX13_isFolded_17
def pX13_isFolded (p0 : Int32) : Int32 := if p0 = 23 then pX13_isFolded_b12 p0   else if p0 = 24 then pX13_isFolded_b12 p0   else 0
set_option maxRecDepth 10000 in
set_option maxHeartbeats 4000000 in
theorem pX13_isFolded_ok (G : Gx) (dk : Nat) (hK : 0 ≤ dk) (g : MT) (h0 : CT) (p0 : Int32) : Ctr G dk yX13_isFolded cX13_isFolded 1 (some .boolean) [.int p0] g h0 (some (.int (pX13_isFolded p0))) g h0 := by
  obtain ⟨r0, hf⟩ : ∃ z, pX13_isFolded p0 = z := ⟨_, rfl⟩
  rw [hf]
  refine Ctr.ofZ (lv := [(0, .int p0)]) (by decide +kernel) (by simp [cat_i, cat_l, cat_d, cat_rf]) rfl fun X Z => ?_
  unfold pX13_isFolded at hf
  refine J_iload_n Z.1 0 dX13_isFolded_0 rfl rfl ?_
  refine J_bipush Z.1 (v := 23) (by decide) dX13_isFolded_1 ?_
  refine J_icmp_eq Z.1 12 dX13_isFolded_3 (by decide) (fun c1 => ?_) (fun c1 => ?_)
  · rw [if_pos c1] at hf
    refine J_lv [] rfl ?_
    exact pX13_isFolded_b12_ok Z hK   hf
  · rw [if_neg c1] at hf
    refine J_iload_n Z.1 0 dX13_isFolded_6 rfl rfl ?_
    refine J_bipush Z.1 (v := 24) (by decide) dX13_isFolded_7 ?_
    refine J_icmp_ne Z.1 16 dX13_isFolded_9 (by decide) (fun c2 => ?_) (fun c2 => ?_)
    · rw [if_neg c2] at hf
      refine J_iconst Z.1 (v := 0) (by decide) dX13_isFolded_16 ?_
      cases hf
      exact J_zret Z.1 Z.2.2.2.2.2 (z_n (Or.inl rfl)) dX13_isFolded_17
    · rw [if_pos c2] at hf
      refine J_lv [] rfl ?_
      exact pX13_isFolded_b12_ok Z hK   hf
theorem pX13_isFolded_z (p0 : Int32) : is01 (pX13_isFolded p0) := by
  unfold pX13_isFolded
  simp only [pX13_isFolded_b12]
  (try split) <;> (try split) <;> (try split) <;> (try split) <;> (try split) <;> (try split) <;> (try split) <;> (try split) <;> first | exact Or.inl rfl | exact Or.inr rfl
theorem dX13_readsA_0 : decode cX13_readsA 0 = .ok (.iload_n 0, 1) := by decide +kernel
theorem dX13_readsA_1 : decode cX13_readsA 1 = .ok (.invokestatic 345, 3) := by decide +kernel
theorem dX13_readsA_4 : decode cX13_readsA 4 = .ok (.ifCond .ne 21, 3) := by decide +kernel
theorem dX13_readsA_7 : decode cX13_readsA 7 = .ok (.iload_n 0, 1) := by decide +kernel
theorem dX13_readsA_8 : decode cX13_readsA 8 = .ok (.bipush 17, 2) := by decide +kernel
theorem dX13_readsA_10 : decode cX13_readsA 10 = .ok (.if_icmp .eq 15, 3) := by decide +kernel
theorem dX13_readsA_13 : decode cX13_readsA 13 = .ok (.iload_n 0, 1) := by decide +kernel
theorem dX13_readsA_14 : decode cX13_readsA 14 = .ok (.bipush 18, 2) := by decide +kernel
theorem dX13_readsA_16 : decode cX13_readsA 16 = .ok (.if_icmp .eq 9, 3) := by decide +kernel
theorem dX13_readsA_19 : decode cX13_readsA 19 = .ok (.iload_n 0, 1) := by decide +kernel
theorem dX13_readsA_20 : decode cX13_readsA 20 = .ok (.bipush 21, 2) := by decide +kernel
theorem dX13_readsA_22 : decode cX13_readsA 22 = .ok (.if_icmp .ne 7, 3) := by decide +kernel
theorem dX13_readsA_25 : decode cX13_readsA 25 = .ok (.iconst 1, 1) := by decide +kernel
theorem dX13_readsA_26 : decode cX13_readsA 26 = .ok (.goto 4, 3) := by decide +kernel
theorem dX13_readsA_29 : decode cX13_readsA 29 = .ok (.iconst 0, 1) := by decide +kernel
theorem dX13_readsA_30 : decode cX13_readsA 30 = .ok (.ireturn, 1) := by decide +kernel
def pX13_readsA_b25 (p0 : Int32)  : Int32 := 1
set_option maxRecDepth 10000 in
set_option maxHeartbeats 4000000 in
theorem pX13_readsA_b25_ok {X : Cx} {G : Gx} {dk : Nat} {g : MT} {r0 : Int32} {h0 : CT} {p0 : Int32} (Z : Zx X G cX13_readsA RX13 1 dk (some .boolean) (some (.int r0)) g h0) (hK : 1 ≤ dk)  (hf : pX13_readsA_b25 p0 = r0) : J X g h0 25 [] [] := by
  unfold pX13_readsA_b25 at hf
  refine J_iconst Z.1 (v := 1) (by decide) dX13_readsA_25 ?_
  refine J_goto Z.1 30 dX13_readsA_26 (by decide) ?_
  cases hf
  exact J_zret Z.1 Z.2.2.2.2.2 (z_n (Or.inr rfl)) dX13_readsA_30
def pX13_readsA (p0 : Int32) : Int32 := if (pX13_isReckoned p0) = 0 then if p0 = 17 then pX13_readsA_b25 p0   else if p0 = 18 then pX13_readsA_b25 p0   else if p0 = 21 then pX13_readsA_b25 p0   else 0 else pX13_readsA_b25 p0  
set_option maxRecDepth 10000 in
set_option maxHeartbeats 4000000 in
theorem pX13_readsA_ok (G : Gx) (dk : Nat) (hK : 1 ≤ dk) (g : MT) (h0 : CT) (p0 : Int32) : Ctr G dk yX13_readsA cX13_readsA 1 (some .boolean) [.int p0] g h0 (some (.int (pX13_readsA p0))) g h0 := by
  obtain ⟨r0, hf⟩ : ∃ z, pX13_readsA p0 = z := ⟨_, rfl⟩
  rw [hf]
  refine Ctr.ofZ (lv := [(0, .int p0)]) (by decide +kernel) (by simp [cat_i, cat_l, cat_d, cat_rf]) rfl fun X Z => ?_
  unfold pX13_readsA at hf
  refine J_iload_n Z.1 0 dX13_readsA_0 rfl rfl ?_
  refine J_callS (as := [.int p0]) (rest := []) (sy := [.int (pX13_isReckoned p0)]) Z.1 dX13_readsA_1 cw_X13_345 (pX13_isReckoned_ok G (dk - 1) (by omega) g h0 p0) (zG Z) rfl (by decide) (zF Z (by omega)) (zO Z (by omega) (by decide)) (zM _) Z.2.1 Z.2.1 rfl rfl ?_
  refine J_if_ne Z.1 25 dX13_readsA_4 (by decide) (fun c1 => ?_) (fun c1 => ?_)
  · rw [if_neg c1] at hf
    refine J_lv [] rfl ?_
    exact pX13_readsA_b25_ok Z hK   hf
  · rw [if_pos c1] at hf
    refine J_iload_n Z.1 0 dX13_readsA_7 rfl rfl ?_
    refine J_bipush Z.1 (v := 17) (by decide) dX13_readsA_8 ?_
    refine J_icmp_eq Z.1 25 dX13_readsA_10 (by decide) (fun c2 => ?_) (fun c2 => ?_)
    · rw [if_pos c2] at hf
      refine J_lv [] rfl ?_
      exact pX13_readsA_b25_ok Z hK   hf
    · rw [if_neg c2] at hf
      refine J_iload_n Z.1 0 dX13_readsA_13 rfl rfl ?_
      refine J_bipush Z.1 (v := 18) (by decide) dX13_readsA_14 ?_
      refine J_icmp_eq Z.1 25 dX13_readsA_16 (by decide) (fun c3 => ?_) (fun c3 => ?_)
      · rw [if_pos c3] at hf
        refine J_lv [] rfl ?_
        exact pX13_readsA_b25_ok Z hK   hf
      · rw [if_neg c3] at hf
        refine J_iload_n Z.1 0 dX13_readsA_19 rfl rfl ?_
        refine J_bipush Z.1 (v := 21) (by decide) dX13_readsA_20 ?_
        refine J_icmp_ne Z.1 29 dX13_readsA_22 (by decide) (fun c4 => ?_) (fun c4 => ?_)
        · rw [if_neg c4] at hf
          refine J_iconst Z.1 (v := 0) (by decide) dX13_readsA_29 ?_
          cases hf
          exact J_zret Z.1 Z.2.2.2.2.2 (z_n (Or.inl rfl)) dX13_readsA_30
        · rw [if_pos c4] at hf
          refine J_lv [] rfl ?_
          exact pX13_readsA_b25_ok Z hK   hf
theorem pX13_readsA_z (p0 : Int32) : is01 (pX13_readsA p0) := by
  unfold pX13_readsA
  simp only [pX13_readsA_b25]
  (try split) <;> (try split) <;> (try split) <;> (try split) <;> (try split) <;> (try split) <;> (try split) <;> (try split) <;> first | exact Or.inl rfl | exact Or.inr rfl | exact pX13_isReckoned_z _
theorem dX13_readsB_0 : decode cX13_readsB 0 = .ok (.iload_n 0, 1) := by decide +kernel
theorem dX13_readsB_1 : decode cX13_readsB 1 = .ok (.invokestatic 348, 3) := by decide +kernel
theorem dX13_readsB_4 : decode cX13_readsB 4 = .ok (.ifCond .ne 10, 3) := by decide +kernel
theorem dX13_readsB_7 : decode cX13_readsB 7 = .ok (.iload_n 0, 1) := by decide +kernel
theorem dX13_readsB_8 : decode cX13_readsB 8 = .ok (.invokestatic 351, 3) := by decide +kernel
theorem dX13_readsB_11 : decode cX13_readsB 11 = .ok (.ifCond .eq 7, 3) := by decide +kernel
theorem dX13_readsB_14 : decode cX13_readsB 14 = .ok (.iconst 1, 1) := by decide +kernel
theorem dX13_readsB_15 : decode cX13_readsB 15 = .ok (.goto 4, 3) := by decide +kernel
theorem dX13_readsB_18 : decode cX13_readsB 18 = .ok (.iconst 0, 1) := by decide +kernel
theorem dX13_readsB_19 : decode cX13_readsB 19 = .ok (.ireturn, 1) := by decide +kernel
def pX13_readsB_b14 (p0 : Int32)  : Int32 := 1
set_option maxRecDepth 10000 in
set_option maxHeartbeats 4000000 in
theorem pX13_readsB_b14_ok {X : Cx} {G : Gx} {dk : Nat} {g : MT} {r0 : Int32} {h0 : CT} {p0 : Int32} (Z : Zx X G cX13_readsB RX13 1 dk (some .boolean) (some (.int r0)) g h0) (hK : 1 ≤ dk)  (hf : pX13_readsB_b14 p0 = r0) : J X g h0 14 [] [] := by
  unfold pX13_readsB_b14 at hf
  refine J_iconst Z.1 (v := 1) (by decide) dX13_readsB_14 ?_
  refine J_goto Z.1 19 dX13_readsB_15 (by decide) ?_
  cases hf
  exact J_zret Z.1 Z.2.2.2.2.2 (z_n (Or.inr rfl)) dX13_readsB_19
def pX13_readsB (p0 : Int32) : Int32 := if (pX13_isTwo p0) = 0 then if (pX13_isIndexed p0) = 0 then 0 else pX13_readsB_b14 p0   else pX13_readsB_b14 p0  
set_option maxRecDepth 10000 in
set_option maxHeartbeats 4000000 in
theorem pX13_readsB_ok (G : Gx) (dk : Nat) (hK : 1 ≤ dk) (g : MT) (h0 : CT) (p0 : Int32) : Ctr G dk yX13_readsB cX13_readsB 1 (some .boolean) [.int p0] g h0 (some (.int (pX13_readsB p0))) g h0 := by
  obtain ⟨r0, hf⟩ : ∃ z, pX13_readsB p0 = z := ⟨_, rfl⟩
  rw [hf]
  refine Ctr.ofZ (lv := [(0, .int p0)]) (by decide +kernel) (by simp [cat_i, cat_l, cat_d, cat_rf]) rfl fun X Z => ?_
  unfold pX13_readsB at hf
  refine J_iload_n Z.1 0 dX13_readsB_0 rfl rfl ?_
  refine J_callS (as := [.int p0]) (rest := []) (sy := [.int (pX13_isTwo p0)]) Z.1 dX13_readsB_1 cw_X13_348 (pX13_isTwo_ok G (dk - 1) (by omega) g h0 p0) (zG Z) rfl (by decide) (zF Z (by omega)) (zO Z (by omega) (by decide)) (zM _) Z.2.1 Z.2.1 rfl rfl ?_
  refine J_if_ne Z.1 14 dX13_readsB_4 (by decide) (fun c1 => ?_) (fun c1 => ?_)
  · rw [if_neg c1] at hf
    refine J_lv [] rfl ?_
    exact pX13_readsB_b14_ok Z hK   hf
  · rw [if_pos c1] at hf
    refine J_iload_n Z.1 0 dX13_readsB_7 rfl rfl ?_
    refine J_callS (as := [.int p0]) (rest := []) (sy := [.int (pX13_isIndexed p0)]) Z.1 dX13_readsB_8 cw_X13_351 (pX13_isIndexed_ok G (dk - 1) (by omega) g h0 p0) (zG Z) rfl (by decide) (zF Z (by omega)) (zO Z (by omega) (by decide)) (zM _) Z.2.1 Z.2.1 rfl rfl ?_
    refine J_if_eq Z.1 18 dX13_readsB_11 (by decide) (fun c2 => ?_) (fun c2 => ?_)
    · rw [if_pos c2] at hf
      refine J_iconst Z.1 (v := 0) (by decide) dX13_readsB_18 ?_
      cases hf
      exact J_zret Z.1 Z.2.2.2.2.2 (z_n (Or.inl rfl)) dX13_readsB_19
    · rw [if_neg c2] at hf
      refine J_lv [] rfl ?_
      exact pX13_readsB_b14_ok Z hK   hf
theorem pX13_readsB_z (p0 : Int32) : is01 (pX13_readsB p0) := by
  unfold pX13_readsB
  simp only [pX13_readsB_b14]
  (try split) <;> (try split) <;> (try split) <;> (try split) <;> (try split) <;> (try split) <;> (try split) <;> (try split) <;> first | exact Or.inl rfl | exact Or.inr rfl | exact pX13_isIn_z _ _ _ | exact pX13_isIndexed_z _ | exact pX13_isTwo_z _
theorem dX13_readsD_0 : decode cX13_readsD 0 = .ok (.iload_n 0, 1) := by decide +kernel
theorem dX13_readsD_1 : decode cX13_readsD 1 = .ok (.iconst 4, 1) := by decide +kernel
theorem dX13_readsD_2 : decode cX13_readsD 2 = .ok (.if_icmp .eq 23, 3) := by decide +kernel
theorem dX13_readsD_5 : decode cX13_readsD 5 = .ok (.iload_n 0, 1) := by decide +kernel
theorem dX13_readsD_6 : decode cX13_readsD 6 = .ok (.bipush 6, 2) := by decide +kernel
theorem dX13_readsD_8 : decode cX13_readsD 8 = .ok (.if_icmp .eq 17, 3) := by decide +kernel
theorem dX13_readsD_11 : decode cX13_readsD 11 = .ok (.iload_n 0, 1) := by decide +kernel
theorem dX13_readsD_12 : decode cX13_readsD 12 = .ok (.invokestatic 354, 3) := by decide +kernel
theorem dX13_readsD_15 : decode cX13_readsD 15 = .ok (.ifCond .ne 10, 3) := by decide +kernel
theorem dX13_readsD_18 : decode cX13_readsD 18 = .ok (.iload_n 0, 1) := by decide +kernel
theorem dX13_readsD_19 : decode cX13_readsD 19 = .ok (.invokestatic 357, 3) := by decide +kernel
theorem dX13_readsD_22 : decode cX13_readsD 22 = .ok (.ifCond .eq 7, 3) := by decide +kernel
theorem dX13_readsD_25 : decode cX13_readsD 25 = .ok (.iconst 1, 1) := by decide +kernel
theorem dX13_readsD_26 : decode cX13_readsD 26 = .ok (.goto 4, 3) := by decide +kernel
theorem dX13_readsD_29 : decode cX13_readsD 29 = .ok (.iconst 0, 1) := by decide +kernel
theorem dX13_readsD_30 : decode cX13_readsD 30 = .ok (.ireturn, 1) := by decide +kernel
def pX13_readsD_b25 (p0 : Int32)  : Int32 := 1
set_option maxRecDepth 10000 in
set_option maxHeartbeats 4000000 in
theorem pX13_readsD_b25_ok {X : Cx} {G : Gx} {dk : Nat} {g : MT} {r0 : Int32} {h0 : CT} {p0 : Int32} (Z : Zx X G cX13_readsD RX13 1 dk (some .boolean) (some (.int r0)) g h0) (hK : 1 ≤ dk)  (hf : pX13_readsD_b25 p0 = r0) : J X g h0 25 [] [] := by
  unfold pX13_readsD_b25 at hf
  refine J_iconst Z.1 (v := 1) (by decide) dX13_readsD_25 ?_
  refine J_goto Z.1 30 dX13_readsD_26 (by decide) ?_
  cases hf
  exact J_zret Z.1 Z.2.2.2.2.2 (z_n (Or.inr rfl)) dX13_readsD_30
def pX13_readsD (p0 : Int32) : Int32 := if p0 = 4 then pX13_readsD_b25 p0   else if p0 = 6 then pX13_readsD_b25 p0   else if (pX13_isCompared p0) = 0 then if (pX13_isFolded p0) = 0 then 0 else pX13_readsD_b25 p0   else pX13_readsD_b25 p0  
set_option maxRecDepth 10000 in
set_option maxHeartbeats 4000000 in
theorem pX13_readsD_ok (G : Gx) (dk : Nat) (hK : 1 ≤ dk) (g : MT) (h0 : CT) (p0 : Int32) : Ctr G dk yX13_readsD cX13_readsD 1 (some .boolean) [.int p0] g h0 (some (.int (pX13_readsD p0))) g h0 := by
  obtain ⟨r0, hf⟩ : ∃ z, pX13_readsD p0 = z := ⟨_, rfl⟩
  rw [hf]
  refine Ctr.ofZ (lv := [(0, .int p0)]) (by decide +kernel) (by simp [cat_i, cat_l, cat_d, cat_rf]) rfl fun X Z => ?_
  unfold pX13_readsD at hf
  refine J_iload_n Z.1 0 dX13_readsD_0 rfl rfl ?_
  refine J_iconst Z.1 (v := 4) (by decide) dX13_readsD_1 ?_
  refine J_icmp_eq Z.1 25 dX13_readsD_2 (by decide) (fun c1 => ?_) (fun c1 => ?_)
  · rw [if_pos c1] at hf
    refine J_lv [] rfl ?_
    exact pX13_readsD_b25_ok Z hK   hf
  · rw [if_neg c1] at hf
    refine J_iload_n Z.1 0 dX13_readsD_5 rfl rfl ?_
    refine J_bipush Z.1 (v := 6) (by decide) dX13_readsD_6 ?_
    refine J_icmp_eq Z.1 25 dX13_readsD_8 (by decide) (fun c2 => ?_) (fun c2 => ?_)
    · rw [if_pos c2] at hf
      refine J_lv [] rfl ?_
      exact pX13_readsD_b25_ok Z hK   hf
    · rw [if_neg c2] at hf
      refine J_iload_n Z.1 0 dX13_readsD_11 rfl rfl ?_
      refine J_callS (as := [.int p0]) (rest := []) (sy := [.int (pX13_isCompared p0)]) Z.1 dX13_readsD_12 cw_X13_354 (pX13_isCompared_ok G (dk - 1) (by omega) g h0 p0) (zG Z) rfl (by decide) (zF Z (by omega)) (zO Z (by omega) (by decide)) (zM _) Z.2.1 Z.2.1 rfl rfl ?_
      refine J_if_ne Z.1 25 dX13_readsD_15 (by decide) (fun c3 => ?_) (fun c3 => ?_)
      · rw [if_neg c3] at hf
        refine J_lv [] rfl ?_
        exact pX13_readsD_b25_ok Z hK   hf
      · rw [if_pos c3] at hf
        refine J_iload_n Z.1 0 dX13_readsD_18 rfl rfl ?_
        refine J_callS (as := [.int p0]) (rest := []) (sy := [.int (pX13_isFolded p0)]) Z.1 dX13_readsD_19 cw_X13_357 (pX13_isFolded_ok G (dk - 1) (by omega) g h0 p0) (zG Z) rfl (by decide) (zF Z (by omega)) (zO Z (by omega) (by decide)) (zM _) Z.2.1 Z.2.1 rfl rfl ?_
        refine J_if_eq Z.1 29 dX13_readsD_22 (by decide) (fun c4 => ?_) (fun c4 => ?_)
        · rw [if_pos c4] at hf
          refine J_iconst Z.1 (v := 0) (by decide) dX13_readsD_29 ?_
          cases hf
          exact J_zret Z.1 Z.2.2.2.2.2 (z_n (Or.inl rfl)) dX13_readsD_30
        · rw [if_neg c4] at hf
          refine J_lv [] rfl ?_
          exact pX13_readsD_b25_ok Z hK   hf
theorem pX13_readsD_z (p0 : Int32) : is01 (pX13_readsD p0) := by
  unfold pX13_readsD
  simp only [pX13_readsD_b25]
  (try split) <;> (try split) <;> (try split) <;> (try split) <;> (try split) <;> (try split) <;> (try split) <;> (try split) <;> first | exact Or.inl rfl | exact Or.inr rfl | exact pX13_isCompared_z _ | exact pX13_isFolded_z _
theorem dX13_writesD_0 : decode cX13_writesD 0 = .ok (.iload_n 0, 1) := by decide +kernel
theorem dX13_writesD_1 : decode cX13_writesD 1 = .ok (.iconst 1, 1) := by decide +kernel
theorem dX13_writesD_2 : decode cX13_writesD 2 = .ok (.if_icmp .eq 25, 3) := by decide +kernel
theorem dX13_writesD_5 : decode cX13_writesD 5 = .ok (.iload_n 0, 1) := by decide +kernel
theorem dX13_writesD_6 : decode cX13_writesD 6 = .ok (.iconst 2, 1) := by decide +kernel
theorem dX13_writesD_7 : decode cX13_writesD 7 = .ok (.if_icmp .eq 20, 3) := by decide +kernel
theorem dX13_writesD_10 : decode cX13_writesD 10 = .ok (.iload_n 0, 1) := by decide +kernel
theorem dX13_writesD_11 : decode cX13_writesD 11 = .ok (.iconst 3, 1) := by decide +kernel
theorem dX13_writesD_12 : decode cX13_writesD 12 = .ok (.if_icmp .eq 15, 3) := by decide +kernel
theorem dX13_writesD_15 : decode cX13_writesD 15 = .ok (.iload_n 0, 1) := by decide +kernel
theorem dX13_writesD_16 : decode cX13_writesD 16 = .ok (.iconst 5, 1) := by decide +kernel
theorem dX13_writesD_17 : decode cX13_writesD 17 = .ok (.if_icmp .eq 10, 3) := by decide +kernel
theorem dX13_writesD_20 : decode cX13_writesD 20 = .ok (.iload_n 0, 1) := by decide +kernel
theorem dX13_writesD_21 : decode cX13_writesD 21 = .ok (.invokestatic 345, 3) := by decide +kernel
theorem dX13_writesD_24 : decode cX13_writesD 24 = .ok (.ifCond .eq 7, 3) := by decide +kernel
theorem dX13_writesD_27 : decode cX13_writesD 27 = .ok (.iconst 1, 1) := by decide +kernel
theorem dX13_writesD_28 : decode cX13_writesD 28 = .ok (.goto 4, 3) := by decide +kernel
theorem dX13_writesD_31 : decode cX13_writesD 31 = .ok (.iconst 0, 1) := by decide +kernel
theorem dX13_writesD_32 : decode cX13_writesD 32 = .ok (.ireturn, 1) := by decide +kernel
def pX13_writesD_b27 (p0 : Int32)  : Int32 := 1
set_option maxRecDepth 10000 in
set_option maxHeartbeats 4000000 in
theorem pX13_writesD_b27_ok {X : Cx} {G : Gx} {dk : Nat} {g : MT} {r0 : Int32} {h0 : CT} {p0 : Int32} (Z : Zx X G cX13_writesD RX13 1 dk (some .boolean) (some (.int r0)) g h0) (hK : 1 ≤ dk)  (hf : pX13_writesD_b27 p0 = r0) : J X g h0 27 [] [] := by
  unfold pX13_writesD_b27 at hf
  refine J_iconst Z.1 (v := 1) (by decide) dX13_writesD_27 ?_
  refine J_goto Z.1 32 dX13_writesD_28 (by decide) ?_
  cases hf
  exact J_zret Z.1 Z.2.2.2.2.2 (z_n (Or.inr rfl)) dX13_writesD_32
def pX13_writesD (p0 : Int32) : Int32 := if p0 = 1 then pX13_writesD_b27 p0   else if p0 = 2 then pX13_writesD_b27 p0   else if p0 = 3 then pX13_writesD_b27 p0   else if p0 = 5 then pX13_writesD_b27 p0   else if (pX13_isReckoned p0) = 0 then 0 else pX13_writesD_b27 p0  
set_option maxRecDepth 10000 in
set_option maxHeartbeats 4000000 in
theorem pX13_writesD_ok (G : Gx) (dk : Nat) (hK : 1 ≤ dk) (g : MT) (h0 : CT) (p0 : Int32) : Ctr G dk yX13_writesD cX13_writesD 1 (some .boolean) [.int p0] g h0 (some (.int (pX13_writesD p0))) g h0 := by
  obtain ⟨r0, hf⟩ : ∃ z, pX13_writesD p0 = z := ⟨_, rfl⟩
  rw [hf]
  refine Ctr.ofZ (lv := [(0, .int p0)]) (by decide +kernel) (by simp [cat_i, cat_l, cat_d, cat_rf]) rfl fun X Z => ?_
  unfold pX13_writesD at hf
  refine J_iload_n Z.1 0 dX13_writesD_0 rfl rfl ?_
  refine J_iconst Z.1 (v := 1) (by decide) dX13_writesD_1 ?_
  refine J_icmp_eq Z.1 27 dX13_writesD_2 (by decide) (fun c1 => ?_) (fun c1 => ?_)
  · rw [if_pos c1] at hf
    refine J_lv [] rfl ?_
    exact pX13_writesD_b27_ok Z hK   hf
  · rw [if_neg c1] at hf
    refine J_iload_n Z.1 0 dX13_writesD_5 rfl rfl ?_
    refine J_iconst Z.1 (v := 2) (by decide) dX13_writesD_6 ?_
    refine J_icmp_eq Z.1 27 dX13_writesD_7 (by decide) (fun c2 => ?_) (fun c2 => ?_)
    · rw [if_pos c2] at hf
      refine J_lv [] rfl ?_
      exact pX13_writesD_b27_ok Z hK   hf
    · rw [if_neg c2] at hf
      refine J_iload_n Z.1 0 dX13_writesD_10 rfl rfl ?_
      refine J_iconst Z.1 (v := 3) (by decide) dX13_writesD_11 ?_
      refine J_icmp_eq Z.1 27 dX13_writesD_12 (by decide) (fun c3 => ?_) (fun c3 => ?_)
      · rw [if_pos c3] at hf
        refine J_lv [] rfl ?_
        exact pX13_writesD_b27_ok Z hK   hf
      · rw [if_neg c3] at hf
        refine J_iload_n Z.1 0 dX13_writesD_15 rfl rfl ?_
        refine J_iconst Z.1 (v := 5) (by decide) dX13_writesD_16 ?_
        refine J_icmp_eq Z.1 27 dX13_writesD_17 (by decide) (fun c4 => ?_) (fun c4 => ?_)
        · rw [if_pos c4] at hf
          refine J_lv [] rfl ?_
          exact pX13_writesD_b27_ok Z hK   hf
        · rw [if_neg c4] at hf
          refine J_iload_n Z.1 0 dX13_writesD_20 rfl rfl ?_
          refine J_callS (as := [.int p0]) (rest := []) (sy := [.int (pX13_isReckoned p0)]) Z.1 dX13_writesD_21 cw_X13_345 (pX13_isReckoned_ok G (dk - 1) (by omega) g h0 p0) (zG Z) rfl (by decide) (zF Z (by omega)) (zO Z (by omega) (by decide)) (zM _) Z.2.1 Z.2.1 rfl rfl ?_
          refine J_if_eq Z.1 31 dX13_writesD_24 (by decide) (fun c5 => ?_) (fun c5 => ?_)
          · rw [if_pos c5] at hf
            refine J_iconst Z.1 (v := 0) (by decide) dX13_writesD_31 ?_
            cases hf
            exact J_zret Z.1 Z.2.2.2.2.2 (z_n (Or.inl rfl)) dX13_writesD_32
          · rw [if_neg c5] at hf
            refine J_lv [] rfl ?_
            exact pX13_writesD_b27_ok Z hK   hf
theorem pX13_writesD_z (p0 : Int32) : is01 (pX13_writesD p0) := by
  unfold pX13_writesD
  simp only [pX13_writesD_b27]
  (try split) <;> (try split) <;> (try split) <;> (try split) <;> (try split) <;> (try split) <;> (try split) <;> (try split) <;> first | exact Or.inl rfl | exact Or.inr rfl | exact pX13_isReckoned_z _
theorem dX13_unitOf_0 : decode cX13_unitOf 0 = .ok (.iload_n 0, 1) := by decide +kernel
theorem dX13_unitOf_1 : decode cX13_unitOf 1 = .ok (.invokestatic 360, 3) := by decide +kernel
theorem dX13_unitOf_4 : decode cX13_unitOf 4 = .ok (.ifCond .eq 5, 3) := by decide +kernel
theorem dX13_unitOf_7 : decode cX13_unitOf 7 = .ok (.iconst 0, 1) := by decide +kernel
theorem dX13_unitOf_8 : decode cX13_unitOf 8 = .ok (.ireturn, 1) := by decide +kernel
theorem dX13_unitOf_9 : decode cX13_unitOf 9 = .ok (.iload_n 0, 1) := by decide +kernel
theorem dX13_unitOf_10 : decode cX13_unitOf 10 = .ok (.bipush 9, 2) := by decide +kernel
theorem dX13_unitOf_12 : decode cX13_unitOf 12 = .ok (.if_icmp .ne 5, 3) := by decide +kernel
theorem dX13_unitOf_15 : decode cX13_unitOf 15 = .ok (.iconst 1, 1) := by decide +kernel
theorem dX13_unitOf_16 : decode cX13_unitOf 16 = .ok (.ireturn, 1) := by decide +kernel
theorem dX13_unitOf_17 : decode cX13_unitOf 17 = .ok (.iload_n 0, 1) := by decide +kernel
theorem dX13_unitOf_18 : decode cX13_unitOf 18 = .ok (.bipush 10, 2) := by decide +kernel
theorem dX13_unitOf_20 : decode cX13_unitOf 20 = .ok (.if_icmp .eq 9, 3) := by decide +kernel
theorem dX13_unitOf_23 : decode cX13_unitOf 23 = .ok (.iload_n 0, 1) := by decide +kernel
theorem dX13_unitOf_24 : decode cX13_unitOf 24 = .ok (.bipush 11, 2) := by decide +kernel
theorem dX13_unitOf_26 : decode cX13_unitOf 26 = .ok (.if_icmp .ne 5, 3) := by decide +kernel
theorem dX13_unitOf_29 : decode cX13_unitOf 29 = .ok (.iconst 2, 1) := by decide +kernel
theorem dX13_unitOf_30 : decode cX13_unitOf 30 = .ok (.ireturn, 1) := by decide +kernel
theorem dX13_unitOf_31 : decode cX13_unitOf 31 = .ok (.iload_n 0, 1) := by decide +kernel
theorem dX13_unitOf_32 : decode cX13_unitOf 32 = .ok (.invokestatic 363, 3) := by decide +kernel
theorem dX13_unitOf_35 : decode cX13_unitOf 35 = .ok (.ifCond .ne 16, 3) := by decide +kernel
theorem dX13_unitOf_38 : decode cX13_unitOf 38 = .ok (.iload_n 0, 1) := by decide +kernel
theorem dX13_unitOf_39 : decode cX13_unitOf 39 = .ok (.invokestatic 354, 3) := by decide +kernel
theorem dX13_unitOf_42 : decode cX13_unitOf 42 = .ok (.ifCond .ne 9, 3) := by decide +kernel
theorem dX13_unitOf_45 : decode cX13_unitOf 45 = .ok (.iload_n 0, 1) := by decide +kernel
theorem dX13_unitOf_46 : decode cX13_unitOf 46 = .ok (.bipush 21, 2) := by decide +kernel
theorem dX13_unitOf_48 : decode cX13_unitOf 48 = .ok (.if_icmp .ne 7, 3) := by decide +kernel
theorem dX13_unitOf_51 : decode cX13_unitOf 51 = .ok (.iconst 3, 1) := by decide +kernel
theorem dX13_unitOf_52 : decode cX13_unitOf 52 = .ok (.goto 4, 3) := by decide +kernel
theorem dX13_unitOf_55 : decode cX13_unitOf 55 = .ok (.iconst (-1), 1) := by decide +kernel
theorem dX13_unitOf_56 : decode cX13_unitOf 56 = .ok (.ireturn, 1) := by decide +kernel
def pX13_unitOf_b51 (p0 : Int32)  : Int32 := 3
set_option maxRecDepth 10000 in
set_option maxHeartbeats 4000000 in
theorem pX13_unitOf_b51_ok {X : Cx} {G : Gx} {dk : Nat} {g : MT} {r0 : Int32} {h0 : CT} {p0 : Int32} (Z : Zx X G cX13_unitOf RX13 1 dk (some .int) (some (.int r0)) g h0) (hK : 2 ≤ dk)  (hf : pX13_unitOf_b51 p0 = r0) : J X g h0 51 [] [] := by
  unfold pX13_unitOf_b51 at hf
  refine J_iconst Z.1 (v := 3) (by decide) dX13_unitOf_51 ?_
  refine J_goto Z.1 56 dX13_unitOf_52 (by decide) ?_
  cases hf
  exact J_iret Z.1 Z.2.2.2.2.2 dX13_unitOf_56
def pX13_unitOf (p0 : Int32) : Int32 := if (pX13_isMemory p0) = 0 then if p0 = 9 then 1 else if p0 = 10 then 2 else if p0 = 11 then 2 else if (pX13_writesD p0) = 0 then if (pX13_isCompared p0) = 0 then if p0 = 21 then pX13_unitOf_b51 p0   else (-1) else pX13_unitOf_b51 p0   else pX13_unitOf_b51 p0   else 0
set_option maxRecDepth 10000 in
set_option maxHeartbeats 4000000 in
theorem pX13_unitOf_ok (G : Gx) (dk : Nat) (hK : 2 ≤ dk) (g : MT) (h0 : CT) (p0 : Int32) : Ctr G dk yX13_unitOf cX13_unitOf 1 (some .int) [.int p0] g h0 (some (.int (pX13_unitOf p0))) g h0 := by
  obtain ⟨r0, hf⟩ : ∃ z, pX13_unitOf p0 = z := ⟨_, rfl⟩
  rw [hf]
  refine Ctr.ofZ (lv := [(0, .int p0)]) (by decide +kernel) (by simp [cat_i, cat_l, cat_d, cat_rf]) rfl fun X Z => ?_
  unfold pX13_unitOf at hf
  refine J_iload_n Z.1 0 dX13_unitOf_0 rfl rfl ?_
  refine J_callS (as := [.int p0]) (rest := []) (sy := [.int (pX13_isMemory p0)]) Z.1 dX13_unitOf_1 cw_X13_360 (pX13_isMemory_ok G (dk - 1) (by omega) g h0 p0) (zG Z) rfl (by decide) (zF Z (by omega)) (zO Z (by omega) (by decide)) (zM _) Z.2.1 Z.2.1 rfl rfl ?_
  refine J_if_eq Z.1 9 dX13_unitOf_4 (by decide) (fun c1 => ?_) (fun c1 => ?_)
  · rw [if_pos c1] at hf
    refine J_iload_n Z.1 0 dX13_unitOf_9 rfl rfl ?_
    refine J_bipush Z.1 (v := 9) (by decide) dX13_unitOf_10 ?_
    refine J_icmp_ne Z.1 17 dX13_unitOf_12 (by decide) (fun c2 => ?_) (fun c2 => ?_)
    · rw [if_neg c2] at hf
      refine J_iload_n Z.1 0 dX13_unitOf_17 rfl rfl ?_
      refine J_bipush Z.1 (v := 10) (by decide) dX13_unitOf_18 ?_
      refine J_icmp_eq Z.1 29 dX13_unitOf_20 (by decide) (fun c3 => ?_) (fun c3 => ?_)
      · rw [if_pos c3] at hf
        refine J_iconst Z.1 (v := 2) (by decide) dX13_unitOf_29 ?_
        cases hf
        exact J_iret Z.1 Z.2.2.2.2.2 dX13_unitOf_30
      · rw [if_neg c3] at hf
        refine J_iload_n Z.1 0 dX13_unitOf_23 rfl rfl ?_
        refine J_bipush Z.1 (v := 11) (by decide) dX13_unitOf_24 ?_
        refine J_icmp_ne Z.1 31 dX13_unitOf_26 (by decide) (fun c4 => ?_) (fun c4 => ?_)
        · rw [if_neg c4] at hf
          refine J_iload_n Z.1 0 dX13_unitOf_31 rfl rfl ?_
          refine J_callS (as := [.int p0]) (rest := []) (sy := [.int (pX13_writesD p0)]) Z.1 dX13_unitOf_32 cw_X13_363 (pX13_writesD_ok G (dk - 1) (by omega) g h0 p0) (zG Z) rfl (by decide) (zF Z (by omega)) (zO Z (by omega) (by decide)) (zM _) Z.2.1 Z.2.1 rfl rfl ?_
          refine J_if_ne Z.1 51 dX13_unitOf_35 (by decide) (fun c5 => ?_) (fun c5 => ?_)
          · rw [if_neg c5] at hf
            refine J_lv [] rfl ?_
            exact pX13_unitOf_b51_ok Z hK   hf
          · rw [if_pos c5] at hf
            refine J_iload_n Z.1 0 dX13_unitOf_38 rfl rfl ?_
            refine J_callS (as := [.int p0]) (rest := []) (sy := [.int (pX13_isCompared p0)]) Z.1 dX13_unitOf_39 cw_X13_354 (pX13_isCompared_ok G (dk - 1) (by omega) g h0 p0) (zG Z) rfl (by decide) (zF Z (by omega)) (zO Z (by omega) (by decide)) (zM _) Z.2.1 Z.2.1 rfl rfl ?_
            refine J_if_ne Z.1 51 dX13_unitOf_42 (by decide) (fun c6 => ?_) (fun c6 => ?_)
            · rw [if_neg c6] at hf
              refine J_lv [] rfl ?_
              exact pX13_unitOf_b51_ok Z hK   hf
            · rw [if_pos c6] at hf
              refine J_iload_n Z.1 0 dX13_unitOf_45 rfl rfl ?_
              refine J_bipush Z.1 (v := 21) (by decide) dX13_unitOf_46 ?_
              refine J_icmp_ne Z.1 55 dX13_unitOf_48 (by decide) (fun c7 => ?_) (fun c7 => ?_)
              · rw [if_neg c7] at hf
                refine J_iconst Z.1 (v := (-1)) (by decide) dX13_unitOf_55 ?_
                cases hf
                exact J_iret Z.1 Z.2.2.2.2.2 dX13_unitOf_56
              · rw [if_pos c7] at hf
                refine J_lv [] rfl ?_
                exact pX13_unitOf_b51_ok Z hK   hf
        · rw [if_pos c4] at hf
          refine J_iconst Z.1 (v := 2) (by decide) dX13_unitOf_29 ?_
          cases hf
          exact J_iret Z.1 Z.2.2.2.2.2 dX13_unitOf_30
    · rw [if_pos c2] at hf
      refine J_iconst Z.1 (v := 1) (by decide) dX13_unitOf_15 ?_
      cases hf
      exact J_iret Z.1 Z.2.2.2.2.2 dX13_unitOf_16
  · rw [if_neg c1] at hf
    refine J_iconst Z.1 (v := 0) (by decide) dX13_unitOf_7 ?_
    cases hf
    exact J_iret Z.1 Z.2.2.2.2.2 dX13_unitOf_8
theorem dX13_latencyOf_0 : decode cX13_latencyOf 0 = .ok (.iload_n 0, 1) := by decide +kernel
theorem dX13_latencyOf_1 : decode cX13_latencyOf 1 = .ok (.ifCond .ne 7, 3) := by decide +kernel
theorem dX13_latencyOf_4 : decode cX13_latencyOf 4 = .ok (.iconst 5, 1) := by decide +kernel
theorem dX13_latencyOf_5 : decode cX13_latencyOf 5 = .ok (.goto 23, 3) := by decide +kernel
theorem dX13_latencyOf_8 : decode cX13_latencyOf 8 = .ok (.iload_n 0, 1) := by decide +kernel
theorem dX13_latencyOf_9 : decode cX13_latencyOf 9 = .ok (.iconst 1, 1) := by decide +kernel
theorem dX13_latencyOf_10 : decode cX13_latencyOf 10 = .ok (.if_icmp .ne 7, 3) := by decide +kernel
theorem dX13_latencyOf_13 : decode cX13_latencyOf 13 = .ok (.iconst 4, 1) := by decide +kernel
theorem dX13_latencyOf_14 : decode cX13_latencyOf 14 = .ok (.goto 14, 3) := by decide +kernel
theorem dX13_latencyOf_17 : decode cX13_latencyOf 17 = .ok (.iload_n 0, 1) := by decide +kernel
theorem dX13_latencyOf_18 : decode cX13_latencyOf 18 = .ok (.iconst 2, 1) := by decide +kernel
theorem dX13_latencyOf_19 : decode cX13_latencyOf 19 = .ok (.if_icmp .ne 8, 3) := by decide +kernel
theorem dX13_latencyOf_22 : decode cX13_latencyOf 22 = .ok (.bipush 7, 2) := by decide +kernel
theorem dX13_latencyOf_24 : decode cX13_latencyOf 24 = .ok (.goto 4, 3) := by decide +kernel
theorem dX13_latencyOf_27 : decode cX13_latencyOf 27 = .ok (.iconst 3, 1) := by decide +kernel
theorem dX13_latencyOf_28 : decode cX13_latencyOf 28 = .ok (.ireturn, 1) := by decide +kernel
def pX13_latencyOf (p0 : Int32) : Int32 := if p0 = 0 then 5 else if p0 = 1 then 4 else if p0 = 2 then 7 else 3
set_option maxRecDepth 10000 in
set_option maxHeartbeats 4000000 in
theorem pX13_latencyOf_ok (G : Gx) (dk : Nat) (hK : 0 ≤ dk) (g : MT) (h0 : CT) (p0 : Int32) : Ctr G dk yX13_latencyOf cX13_latencyOf 1 (some .int) [.int p0] g h0 (some (.int (pX13_latencyOf p0))) g h0 := by
  obtain ⟨r0, hf⟩ : ∃ z, pX13_latencyOf p0 = z := ⟨_, rfl⟩
  rw [hf]
  refine Ctr.ofZ (lv := [(0, .int p0)]) (by decide +kernel) (by simp [cat_i, cat_l, cat_d, cat_rf]) rfl fun X Z => ?_
  unfold pX13_latencyOf at hf
  refine J_iload_n Z.1 0 dX13_latencyOf_0 rfl rfl ?_
  refine J_if_ne Z.1 8 dX13_latencyOf_1 (by decide) (fun c1 => ?_) (fun c1 => ?_)
  · rw [if_neg c1] at hf
    refine J_iload_n Z.1 0 dX13_latencyOf_8 rfl rfl ?_
    refine J_iconst Z.1 (v := 1) (by decide) dX13_latencyOf_9 ?_
    refine J_icmp_ne Z.1 17 dX13_latencyOf_10 (by decide) (fun c2 => ?_) (fun c2 => ?_)
    · rw [if_neg c2] at hf
      refine J_iload_n Z.1 0 dX13_latencyOf_17 rfl rfl ?_
      refine J_iconst Z.1 (v := 2) (by decide) dX13_latencyOf_18 ?_
      refine J_icmp_ne Z.1 27 dX13_latencyOf_19 (by decide) (fun c3 => ?_) (fun c3 => ?_)
      · rw [if_neg c3] at hf
        refine J_iconst Z.1 (v := 3) (by decide) dX13_latencyOf_27 ?_
        cases hf
        exact J_iret Z.1 Z.2.2.2.2.2 dX13_latencyOf_28
      · rw [if_pos c3] at hf
        refine J_bipush Z.1 (v := 7) (by decide) dX13_latencyOf_22 ?_
        refine J_goto Z.1 28 dX13_latencyOf_24 (by decide) ?_
        cases hf
        exact J_iret Z.1 Z.2.2.2.2.2 dX13_latencyOf_28
    · rw [if_pos c2] at hf
      refine J_iconst Z.1 (v := 4) (by decide) dX13_latencyOf_13 ?_
      refine J_goto Z.1 28 dX13_latencyOf_14 (by decide) ?_
      cases hf
      exact J_iret Z.1 Z.2.2.2.2.2 dX13_latencyOf_28
  · rw [if_pos c1] at hf
    refine J_iconst Z.1 (v := 5) (by decide) dX13_latencyOf_4 ?_
    refine J_goto Z.1 28 dX13_latencyOf_5 (by decide) ?_
    cases hf
    exact J_iret Z.1 Z.2.2.2.2.2 dX13_latencyOf_28
theorem dX13_at_0 : decode cX13_at 0 = .ok (.aload_n 0, 1) := by decide +kernel
theorem dX13_at_1 : decode cX13_at 1 = .ok (.getfield 31, 3) := by decide +kernel
theorem dX13_at_4 : decode cX13_at 4 = .ok (.bipush 6, 2) := by decide +kernel
theorem dX13_at_6 : decode cX13_at 6 = .ok (.bipush 8, 2) := by decide +kernel
theorem dX13_at_8 : decode cX13_at 8 = .ok (.iload_n 1, 1) := by decide +kernel
theorem dX13_at_9 : decode cX13_at 9 = .ok (.imul, 1) := by decide +kernel
theorem dX13_at_10 : decode cX13_at 10 = .ok (.iadd, 1) := by decide +kernel
theorem dX13_at_11 : decode cX13_at 11 = .ok (.iload_n 2, 1) := by decide +kernel
theorem dX13_at_12 : decode cX13_at 12 = .ok (.iadd, 1) := by decide +kernel
theorem dX13_at_13 : decode cX13_at 13 = .ok (.iaload, 1) := by decide +kernel
theorem dX13_at_14 : decode cX13_at 14 = .ok (.ireturn, 1) := by decide +kernel
def pX13_at (g : MT) (h : CT) (this : Nat) (p1 : Int32) (p2 : Int32) : Option Int32 := tg g this 12 (lt (hR h this 19) fun r1 => (nn r1 fun a1 => (tg g a1 20 (ix (gL g a1) ((6 + (8 * p1)) + p2) (some (hI h a1 (Int32.toNatClampNeg ((6 + (8 * p1)) + p2))))))))
set_option maxRecDepth 10000 in
set_option maxHeartbeats 4000000 in
theorem pX13_at_ok (G : Gx) (dk : Nat) (hK : 0 ≤ dk) {g : MT} {h : CT} {this : Nat} {p1 : Int32} {p2 : Int32} {r0 : Int32} (hf : pX13_at g h this p1 p2 = some r0) : Ctr G dk yX13_at cX13_at 3 (some .int) [va_rf (some this), .int p1, .int p2] g h (some (.int r0)) g h := by
  refine Ctr.ofZ (lv := [(0, va_rf (some this)), (1, .int p1), (2, .int p2)]) (by decide +kernel) (by simp [cat_i, cat_l, cat_d, cat_rf]) rfl fun X Z => ?_
  unfold pX13_at at hf
  replace hf := tg_i hf
  obtain ⟨t0, hf⟩ := hf
  refine J_aload_n Z.1 0 dX13_at_0 rfl rfl ?_
  refine J_get (v := va_rf (hR h this 19)) Z.1 dX13_at_1 fl_X13_31 t0 rfl ?_
  refine J_tr (fun r1 er1 => ?_)
  replace hf := lt_i hf r1 er1
  refine J_bipush Z.1 (v := 6) (by decide) dX13_at_4 ?_
  refine J_bipush Z.1 (v := 8) (by decide) dX13_at_6 ?_
  refine J_iload_n Z.1 1 dX13_at_8 rfl rfl ?_
  refine J_imul Z.1 dX13_at_9 ?_
  refine J_iadd Z.1 dX13_at_10 ?_
  refine J_iload_n Z.1 2 dX13_at_11 rfl rfl ?_
  refine J_iadd Z.1 dX13_at_12 ?_
  replace hf := nn_i hf
  obtain ⟨a1, rfl, hf⟩ := hf
  replace hf := tg_i hf
  obtain ⟨t2, hf⟩ := hf
  replace hf := ix_i hf
  obtain ⟨i3, hf⟩ := hf
  refine J_iaload Z.1 dX13_at_13 t2 i3 ?_
  cases hf
  exact J_iret Z.1 Z.2.2.2.2.2 dX13_at_14
theorem dX13_lasts_0 : decode cX13_lasts 0 = .ok (.aload_n 0, 1) := by decide +kernel
theorem dX13_lasts_1 : decode cX13_lasts 1 = .ok (.aload_n 0, 1) := by decide +kernel
theorem dX13_lasts_2 : decode cX13_lasts 2 = .ok (.getfield 366, 3) := by decide +kernel
theorem dX13_lasts_5 : decode cX13_lasts 5 = .ok (.iload_n 1, 1) := by decide +kernel
theorem dX13_lasts_6 : decode cX13_lasts 6 = .ok (.invokestatic 178, 3) := by decide +kernel
theorem dX13_lasts_9 : decode cX13_lasts 9 = .ok (.putfield 366, 3) := by decide +kernel
theorem dX13_lasts_12 : decode cX13_lasts 12 = .ok (.return_, 1) := by decide +kernel
def pX13_lasts (g : MT) (h : CT) (this : Nat) (p1 : Int32) : Option CT := tg g this 12 (lt (sI h this 34 (pJ9_max_7cf53 (hI h this 34) p1)) fun h1 => (some h1))
set_option maxRecDepth 10000 in
set_option maxHeartbeats 4000000 in
theorem pX13_lasts_ok (G : Gx) (dk : Nat) (hK : 1 ≤ dk) {g : MT} {h h0 : CT} {this : Nat} {p1 : Int32} (hf : pX13_lasts g h this p1 = some h0) : Ctr G dk yX13_lasts cX13_lasts 2 none [va_rf (some this), .int p1] g h none g h0 := by
  refine Ctr.ofZ (lv := [(0, va_rf (some this)), (1, .int p1)]) (by decide +kernel) (by simp [cat_i, cat_l, cat_d, cat_rf]) rfl fun X Z => ?_
  unfold pX13_lasts at hf
  replace hf := tg_i hf
  obtain ⟨t0, hf⟩ := hf
  refine J_aload_n Z.1 0 dX13_lasts_0 rfl rfl ?_
  refine J_aload_n Z.1 0 dX13_lasts_1 rfl rfl ?_
  refine J_get (v := .int (hI h this 34)) Z.1 dX13_lasts_2 fl_X13_366 t0 rfl ?_
  refine J_iload_n Z.1 1 dX13_lasts_5 rfl rfl ?_
  refine J_callS (as := [.int (hI h this 34), .int p1]) (rest := [va_rf (some this)]) (sy := [.int (pJ9_max_7cf53 (hI h this 34) p1), va_rf (some this)]) Z.1 dX13_lasts_6 cw_X13_178 (pJ9_max_7cf53_ok G (dk - 1) (by omega) g h (hI h this 34) p1) (zG Z) rfl (by simp [cat_i, cat_l, cat_d, cat_rf]) (zF Z (by omega)) (zO Z (by omega) (by decide)) (zM _) Z.2.1 Z.2.1 rfl rfl ?_
  refine J_putI Z.1 dX13_lasts_9 fl_X13_366 (fun q => by cases q) t0 rfl rfl (congrArg Value.int (hI_s _ _ _ _)) ?_
  refine J_th (fun h1 eh1 => ?_)
  replace hf := lt_i hf h1 eh1
  cases hf
  exact J_vret Z.1 Z.2.2.2.2.2 dX13_lasts_12
theorem dX13_traps_0 : decode cX13_traps 0 = .ok (.aload_n 0, 1) := by decide +kernel
theorem dX13_traps_1 : decode cX13_traps 1 = .ok (.iload_n 1, 1) := by decide +kernel
theorem dX13_traps_2 : decode cX13_traps 2 = .ok (.putfield 369, 3) := by decide +kernel
theorem dX13_traps_5 : decode cX13_traps 5 = .ok (.aload_n 0, 1) := by decide +kernel
theorem dX13_traps_6 : decode cX13_traps 6 = .ok (.iload_n 2, 1) := by decide +kernel
theorem dX13_traps_7 : decode cX13_traps 7 = .ok (.putfield 372, 3) := by decide +kernel
theorem dX13_traps_10 : decode cX13_traps 10 = .ok (.aload_n 0, 1) := by decide +kernel
theorem dX13_traps_11 : decode cX13_traps 11 = .ok (.iload_n 3, 1) := by decide +kernel
theorem dX13_traps_12 : decode cX13_traps 12 = .ok (.putfield 375, 3) := by decide +kernel
theorem dX13_traps_15 : decode cX13_traps 15 = .ok (.aload_n 0, 1) := by decide +kernel
theorem dX13_traps_16 : decode cX13_traps 16 = .ok (.iconst 1, 1) := by decide +kernel
theorem dX13_traps_17 : decode cX13_traps 17 = .ok (.putfield 378, 3) := by decide +kernel
theorem dX13_traps_20 : decode cX13_traps 20 = .ok (.return_, 1) := by decide +kernel
def pX13_traps (g : MT) (h : CT) (this : Nat) (p1 : Int32) (p2 : Int32) (p3 : Int32) : Option CT := tg g this 12 (lt (sI h this 37 p1) fun h1 => (lt (sI h1 this 38 p2) fun h2 => (lt (sI h2 this 39 p3) fun h3 => (lt (sI h3 this 40 1) fun h4 => (some h4)))))
set_option maxRecDepth 10000 in
set_option maxHeartbeats 4000000 in
theorem pX13_traps_ok (G : Gx) (dk : Nat) (hK : 0 ≤ dk) {g : MT} {h h0 : CT} {this : Nat} {p1 : Int32} {p2 : Int32} {p3 : Int32} (hf : pX13_traps g h this p1 p2 p3 = some h0) : Ctr G dk yX13_traps cX13_traps 4 none [va_rf (some this), .int p1, .int p2, .int p3] g h none g h0 := by
  refine Ctr.ofZ (lv := [(0, va_rf (some this)), (1, .int p1), (2, .int p2), (3, .int p3)]) (by decide +kernel) (by simp [cat_i, cat_l, cat_d, cat_rf]) rfl fun X Z => ?_
  unfold pX13_traps at hf
  replace hf := tg_i hf
  obtain ⟨t0, hf⟩ := hf
  refine J_aload_n Z.1 0 dX13_traps_0 rfl rfl ?_
  refine J_iload_n Z.1 1 dX13_traps_1 rfl rfl ?_
  refine J_putI Z.1 dX13_traps_2 fl_X13_369 (fun q => by cases q) t0 rfl rfl (congrArg Value.int (hI_s _ _ _ _)) ?_
  refine J_th (fun h1 eh1 => ?_)
  replace hf := lt_i hf h1 eh1
  refine J_aload_n Z.1 0 dX13_traps_5 rfl rfl ?_
  refine J_iload_n Z.1 2 dX13_traps_6 rfl rfl ?_
  refine J_putI Z.1 dX13_traps_7 fl_X13_372 (fun q => by cases q) t0 rfl rfl (congrArg Value.int (hI_s _ _ _ _)) ?_
  refine J_th (fun h2 eh2 => ?_)
  replace hf := lt_i hf h2 eh2
  refine J_aload_n Z.1 0 dX13_traps_10 rfl rfl ?_
  refine J_iload_n Z.1 3 dX13_traps_11 rfl rfl ?_
  refine J_putI Z.1 dX13_traps_12 fl_X13_375 (fun q => by cases q) t0 rfl rfl (congrArg Value.int (hI_s _ _ _ _)) ?_
  refine J_th (fun h3 eh3 => ?_)
  replace hf := lt_i hf h3 eh3
  refine J_aload_n Z.1 0 dX13_traps_15 rfl rfl ?_
  refine J_iconst Z.1 (v := 1) (by decide) dX13_traps_16 ?_
  refine J_putI Z.1 dX13_traps_17 fl_X13_378 (fun q => by cases q) t0 (z_n (Or.inr rfl)) (z_f (Or.inr rfl)) (congrArg Value.int (hI_s _ _ _ _)) ?_
  refine J_th (fun h4 eh4 => ?_)
  replace hf := lt_i hf h4 eh4
  cases hf
  exact J_vret Z.1 Z.2.2.2.2.2 dX13_traps_20
theorem dX13_misses_0 : decode cX13_misses 0 = .ok (.aload_n 0, 1) := by decide +kernel
theorem dX13_misses_1 : decode cX13_misses 1 = .ok (.getfield 31, 3) := by decide +kernel
theorem dX13_misses_4 : decode cX13_misses 4 = .ok (.iconst 4, 1) := by decide +kernel
theorem dX13_misses_5 : decode cX13_misses 5 = .ok (.iaload, 1) := by decide +kernel
theorem dX13_misses_6 : decode cX13_misses 6 = .ok (.iload_n 1, 1) := by decide +kernel
theorem dX13_misses_7 : decode cX13_misses 7 = .ok (.invokestatic 287, 3) := by decide +kernel
theorem dX13_misses_10 : decode cX13_misses 10 = .ok (.ifCond .ne 7, 3) := by decide +kernel
theorem dX13_misses_13 : decode cX13_misses 13 = .ok (.iconst 1, 1) := by decide +kernel
theorem dX13_misses_14 : decode cX13_misses 14 = .ok (.goto 4, 3) := by decide +kernel
theorem dX13_misses_17 : decode cX13_misses 17 = .ok (.iconst 0, 1) := by decide +kernel
theorem dX13_misses_18 : decode cX13_misses 18 = .ok (.ireturn, 1) := by decide +kernel
def pX13_misses (g : MT) (h : CT) (this : Nat) (p1 : Int32) : Option Int32 := tg g this 12 (lt (hR h this 19) fun r1 => (nn r1 fun a1 => (tg g a1 20 (ix (gL g a1) 4 (if (pX13_has (hI h a1 (Int32.toNatClampNeg 4)) p1) = 0 then some 1 else some 0)))))
set_option maxRecDepth 10000 in
set_option maxHeartbeats 4000000 in
theorem pX13_misses_ok (G : Gx) (dk : Nat) (hK : 1 ≤ dk) {g : MT} {h : CT} {this : Nat} {p1 : Int32} {r0 : Int32} (hf : pX13_misses g h this p1 = some r0) : Ctr G dk yX13_misses cX13_misses 2 (some .boolean) [va_rf (some this), .int p1] g h (some (.int r0)) g h := by
  refine Ctr.ofZ (lv := [(0, va_rf (some this)), (1, .int p1)]) (by decide +kernel) (by simp [cat_i, cat_l, cat_d, cat_rf]) rfl fun X Z => ?_
  unfold pX13_misses at hf
  replace hf := tg_i hf
  obtain ⟨t0, hf⟩ := hf
  refine J_aload_n Z.1 0 dX13_misses_0 rfl rfl ?_
  refine J_get (v := va_rf (hR h this 19)) Z.1 dX13_misses_1 fl_X13_31 t0 rfl ?_
  refine J_tr (fun r1 er1 => ?_)
  replace hf := lt_i hf r1 er1
  refine J_iconst Z.1 (v := 4) (by decide) dX13_misses_4 ?_
  replace hf := nn_i hf
  obtain ⟨a1, rfl, hf⟩ := hf
  replace hf := tg_i hf
  obtain ⟨t2, hf⟩ := hf
  replace hf := ix_i hf
  obtain ⟨i3, hf⟩ := hf
  refine J_iaload Z.1 dX13_misses_5 t2 i3 ?_
  refine J_iload_n Z.1 1 dX13_misses_6 rfl rfl ?_
  refine J_callS (as := [.int (hI h a1 (Int32.toNatClampNeg 4)), .int p1]) (rest := []) (sy := [.int (pX13_has (hI h a1 (Int32.toNatClampNeg 4)) p1)]) Z.1 dX13_misses_7 cw_X13_287 (pX13_has_ok G (dk - 1) (by omega) g h (hI h a1 (Int32.toNatClampNeg 4)) p1) (zG Z) rfl (by decide) (zF Z (by omega)) (zO Z (by omega) (by decide)) (zM _) Z.2.1 Z.2.1 rfl rfl ?_
  refine J_if_ne Z.1 17 dX13_misses_10 (by decide) (fun c4 => ?_) (fun c4 => ?_)
  · rw [if_neg c4] at hf
    refine J_iconst Z.1 (v := 0) (by decide) dX13_misses_17 ?_
    cases hf
    exact J_zret Z.1 Z.2.2.2.2.2 (z_n (Or.inl rfl)) dX13_misses_18
  · rw [if_pos c4] at hf
    refine J_iconst Z.1 (v := 1) (by decide) dX13_misses_13 ?_
    refine J_goto Z.1 18 dX13_misses_14 (by decide) ?_
    cases hf
    exact J_zret Z.1 Z.2.2.2.2.2 (z_n (Or.inr rfl)) dX13_misses_18
theorem dX13_missesRow_0 : decode cX13_missesRow 0 = .ok (.aload_n 0, 1) := by decide +kernel
theorem dX13_missesRow_1 : decode cX13_missesRow 1 = .ok (.iload_n 1, 1) := by decide +kernel
theorem dX13_missesRow_2 : decode cX13_missesRow 2 = .ok (.iconst 0, 1) := by decide +kernel
theorem dX13_missesRow_3 : decode cX13_missesRow 3 = .ok (.invokevirtual 381, 3) := by decide +kernel
theorem dX13_missesRow_6 : decode cX13_missesRow 6 = .ok (.istore_n 2, 1) := by decide +kernel
theorem dX13_missesRow_7 : decode cX13_missesRow 7 = .ok (.iload_n 2, 1) := by decide +kernel
theorem dX13_missesRow_8 : decode cX13_missesRow 8 = .ok (.invokestatic 383, 3) := by decide +kernel
theorem dX13_missesRow_11 : decode cX13_missesRow 11 = .ok (.ifCond .eq 16, 3) := by decide +kernel
theorem dX13_missesRow_14 : decode cX13_missesRow 14 = .ok (.aload_n 0, 1) := by decide +kernel
theorem dX13_missesRow_15 : decode cX13_missesRow 15 = .ok (.aload_n 0, 1) := by decide +kernel
theorem dX13_missesRow_16 : decode cX13_missesRow 16 = .ok (.iload_n 1, 1) := by decide +kernel
theorem dX13_missesRow_17 : decode cX13_missesRow 17 = .ok (.iconst 2, 1) := by decide +kernel
theorem dX13_missesRow_18 : decode cX13_missesRow 18 = .ok (.invokevirtual 381, 3) := by decide +kernel
theorem dX13_missesRow_21 : decode cX13_missesRow 21 = .ok (.invokevirtual 386, 3) := by decide +kernel
theorem dX13_missesRow_24 : decode cX13_missesRow 24 = .ok (.ifCond .ne 43, 3) := by decide +kernel
theorem dX13_missesRow_27 : decode cX13_missesRow 27 = .ok (.iload_n 2, 1) := by decide +kernel
theorem dX13_missesRow_28 : decode cX13_missesRow 28 = .ok (.invokestatic 389, 3) := by decide +kernel
theorem dX13_missesRow_31 : decode cX13_missesRow 31 = .ok (.ifCond .eq 16, 3) := by decide +kernel
theorem dX13_missesRow_34 : decode cX13_missesRow 34 = .ok (.aload_n 0, 1) := by decide +kernel
theorem dX13_missesRow_35 : decode cX13_missesRow 35 = .ok (.aload_n 0, 1) := by decide +kernel
theorem dX13_missesRow_36 : decode cX13_missesRow 36 = .ok (.iload_n 1, 1) := by decide +kernel
theorem dX13_missesRow_37 : decode cX13_missesRow 37 = .ok (.iconst 3, 1) := by decide +kernel
theorem dX13_missesRow_38 : decode cX13_missesRow 38 = .ok (.invokevirtual 381, 3) := by decide +kernel
theorem dX13_missesRow_41 : decode cX13_missesRow 41 = .ok (.invokevirtual 386, 3) := by decide +kernel
theorem dX13_missesRow_44 : decode cX13_missesRow 44 = .ok (.ifCond .ne 23, 3) := by decide +kernel
theorem dX13_missesRow_47 : decode cX13_missesRow 47 = .ok (.iload_n 2, 1) := by decide +kernel
theorem dX13_missesRow_48 : decode cX13_missesRow 48 = .ok (.invokestatic 392, 3) := by decide +kernel
theorem dX13_missesRow_51 : decode cX13_missesRow 51 = .ok (.ifCond .eq 20, 3) := by decide +kernel
theorem dX13_missesRow_54 : decode cX13_missesRow 54 = .ok (.aload_n 0, 1) := by decide +kernel
theorem dX13_missesRow_55 : decode cX13_missesRow 55 = .ok (.aload_n 0, 1) := by decide +kernel
theorem dX13_missesRow_56 : decode cX13_missesRow 56 = .ok (.iload_n 1, 1) := by decide +kernel
theorem dX13_missesRow_57 : decode cX13_missesRow 57 = .ok (.iconst 1, 1) := by decide +kernel
theorem dX13_missesRow_58 : decode cX13_missesRow 58 = .ok (.invokevirtual 381, 3) := by decide +kernel
theorem dX13_missesRow_61 : decode cX13_missesRow 61 = .ok (.invokevirtual 386, 3) := by decide +kernel
theorem dX13_missesRow_64 : decode cX13_missesRow 64 = .ok (.ifCond .eq 7, 3) := by decide +kernel
theorem dX13_missesRow_67 : decode cX13_missesRow 67 = .ok (.iconst 1, 1) := by decide +kernel
theorem dX13_missesRow_68 : decode cX13_missesRow 68 = .ok (.goto 4, 3) := by decide +kernel
theorem dX13_missesRow_71 : decode cX13_missesRow 71 = .ok (.iconst 0, 1) := by decide +kernel
theorem dX13_missesRow_72 : decode cX13_missesRow 72 = .ok (.ireturn, 1) := by decide +kernel
def pX13_missesRow_b67 (g : MT) (h : CT) (this : Nat) (p1 : Int32)  : Option Int32 := some 1
set_option maxRecDepth 10000 in
set_option maxHeartbeats 4000000 in
theorem pX13_missesRow_b67_ok {X : Cx} {G : Gx} {dk : Nat} {g : MT} {r0 : Int32} {h : CT} {this : Nat} {p1 : Int32} (Z : Zx X G cX13_missesRow RX13 3 dk (some .boolean) (some (.int r0)) g h) (hK : 2 ≤ dk) (t0 : gT g this = 12)  (hf : pX13_missesRow_b67 g h this p1 = some r0) : J X g h 67 [] [] := by
  unfold pX13_missesRow_b67 at hf
  refine J_iconst Z.1 (v := 1) (by decide) dX13_missesRow_67 ?_
  refine J_goto Z.1 72 dX13_missesRow_68 (by decide) ?_
  cases hf
  exact J_zret Z.1 Z.2.2.2.2.2 (z_n (Or.inr rfl)) dX13_missesRow_72
def pX13_missesRow_b47 (g : MT) (h : CT) (this : Nat) (p1 : Int32) (l2 : Int32) : Option Int32 := if (pX13_readsD l2) = 0 then some 0 else bd (pX13_at g h this p1 1) fun x2 => (bd (pX13_misses g h this x2) fun x4 => (if x4 = 0 then some 0 else pX13_missesRow_b67 g h this p1  ))
set_option maxRecDepth 10000 in
set_option maxHeartbeats 4000000 in
theorem pX13_missesRow_b47_ok {X : Cx} {G : Gx} {dk : Nat} {g : MT} {r0 : Int32} {h : CT} {this : Nat} {p1 : Int32} (Z : Zx X G cX13_missesRow RX13 3 dk (some .boolean) (some (.int r0)) g h) (hK : 2 ≤ dk) (t0 : gT g this = 12) (l2 : Int32) (hf : pX13_missesRow_b47 g h this p1 l2 = some r0) : J X g h 47 [(0, va_rf (some this)), (1, .int p1), (2, .int l2)] [] := by
  unfold pX13_missesRow_b47 at hf
  refine J_iload_n Z.1 2 dX13_missesRow_47 rfl rfl ?_
  refine J_callS (as := [.int l2]) (rest := []) (sy := [.int (pX13_readsD l2)]) Z.1 dX13_missesRow_48 cw_X13_392 (pX13_readsD_ok G (dk - 1) (by omega) g h l2) (zG Z) rfl (by decide) (zF Z (by omega)) (zO Z (by omega) (by decide)) (zM _) Z.2.1 Z.2.1 rfl rfl ?_
  refine J_if_eq Z.1 71 dX13_missesRow_51 (by decide) (fun c1 => ?_) (fun c1 => ?_)
  · rw [if_pos c1] at hf
    refine J_iconst Z.1 (v := 0) (by decide) dX13_missesRow_71 ?_
    cases hf
    exact J_zret Z.1 Z.2.2.2.2.2 (z_n (Or.inl rfl)) dX13_missesRow_72
  · rw [if_neg c1] at hf
    refine J_aload_n Z.1 0 dX13_missesRow_54 rfl rfl ?_
    refine J_aload_n Z.1 0 dX13_missesRow_55 rfl rfl ?_
    refine J_iload_n Z.1 1 dX13_missesRow_56 rfl rfl ?_
    refine J_iconst Z.1 (v := 1) (by decide) dX13_missesRow_57 ?_
    replace hf := bd_i hf
    obtain ⟨x2, q3, hf⟩ := hf
    refine J_callV (ci := 11) (as := [.int p1, .int 1]) (rest := [va_rf (some this)]) (sy := [.int x2, va_rf (some this)]) Z.1 dX13_missesRow_58 cw_X13_381 (pX13_at_ok G (dk - 1) (by omega) q3) rfl rfl t0 (zG Z) rfl (by simp [cat_i, cat_l, cat_d, cat_rf]) (zF Z (by omega)) (zO Z (by omega) (by decide)) (zM _) Z.2.1 Z.2.1 rfl rfl ?_
    replace hf := bd_i hf
    obtain ⟨x4, q5, hf⟩ := hf
    refine J_callV (ci := 11) (as := [.int x2]) (rest := []) (sy := [.int x4]) Z.1 dX13_missesRow_61 cw_X13_386 (pX13_misses_ok G (dk - 1) (by omega) q5) rfl rfl t0 (zG Z) rfl (by decide) (zF Z (by omega)) (zO Z (by omega) (by decide)) (zM _) Z.2.1 Z.2.1 rfl rfl ?_
    refine J_if_eq Z.1 71 dX13_missesRow_64 (by decide) (fun c6 => ?_) (fun c6 => ?_)
    · rw [if_pos c6] at hf
      refine J_iconst Z.1 (v := 0) (by decide) dX13_missesRow_71 ?_
      cases hf
      exact J_zret Z.1 Z.2.2.2.2.2 (z_n (Or.inl rfl)) dX13_missesRow_72
    · rw [if_neg c6] at hf
      refine J_lv [] rfl ?_
      exact pX13_missesRow_b67_ok Z hK t0   hf
def pX13_missesRow_b27 (g : MT) (h : CT) (this : Nat) (p1 : Int32) (l2 : Int32) : Option Int32 := if (pX13_readsB l2) = 0 then pX13_missesRow_b47 g h this p1  l2 else bd (pX13_at g h this p1 3) fun x2 => (bd (pX13_misses g h this x2) fun x4 => (if x4 = 0 then pX13_missesRow_b47 g h this p1  l2 else pX13_missesRow_b67 g h this p1  ))
set_option maxRecDepth 10000 in
set_option maxHeartbeats 4000000 in
theorem pX13_missesRow_b27_ok {X : Cx} {G : Gx} {dk : Nat} {g : MT} {r0 : Int32} {h : CT} {this : Nat} {p1 : Int32} (Z : Zx X G cX13_missesRow RX13 3 dk (some .boolean) (some (.int r0)) g h) (hK : 2 ≤ dk) (t0 : gT g this = 12) (l2 : Int32) (hf : pX13_missesRow_b27 g h this p1 l2 = some r0) : J X g h 27 [(0, va_rf (some this)), (1, .int p1), (2, .int l2)] [] := by
  unfold pX13_missesRow_b27 at hf
  refine J_iload_n Z.1 2 dX13_missesRow_27 rfl rfl ?_
  refine J_callS (as := [.int l2]) (rest := []) (sy := [.int (pX13_readsB l2)]) Z.1 dX13_missesRow_28 cw_X13_389 (pX13_readsB_ok G (dk - 1) (by omega) g h l2) (zG Z) rfl (by decide) (zF Z (by omega)) (zO Z (by omega) (by decide)) (zM _) Z.2.1 Z.2.1 rfl rfl ?_
  refine J_if_eq Z.1 47 dX13_missesRow_31 (by decide) (fun c1 => ?_) (fun c1 => ?_)
  · rw [if_pos c1] at hf
    exact pX13_missesRow_b47_ok Z hK t0  _ hf
  · rw [if_neg c1] at hf
    refine J_aload_n Z.1 0 dX13_missesRow_34 rfl rfl ?_
    refine J_aload_n Z.1 0 dX13_missesRow_35 rfl rfl ?_
    refine J_iload_n Z.1 1 dX13_missesRow_36 rfl rfl ?_
    refine J_iconst Z.1 (v := 3) (by decide) dX13_missesRow_37 ?_
    replace hf := bd_i hf
    obtain ⟨x2, q3, hf⟩ := hf
    refine J_callV (ci := 11) (as := [.int p1, .int 3]) (rest := [va_rf (some this)]) (sy := [.int x2, va_rf (some this)]) Z.1 dX13_missesRow_38 cw_X13_381 (pX13_at_ok G (dk - 1) (by omega) q3) rfl rfl t0 (zG Z) rfl (by simp [cat_i, cat_l, cat_d, cat_rf]) (zF Z (by omega)) (zO Z (by omega) (by decide)) (zM _) Z.2.1 Z.2.1 rfl rfl ?_
    replace hf := bd_i hf
    obtain ⟨x4, q5, hf⟩ := hf
    refine J_callV (ci := 11) (as := [.int x2]) (rest := []) (sy := [.int x4]) Z.1 dX13_missesRow_41 cw_X13_386 (pX13_misses_ok G (dk - 1) (by omega) q5) rfl rfl t0 (zG Z) rfl (by decide) (zF Z (by omega)) (zO Z (by omega) (by decide)) (zM _) Z.2.1 Z.2.1 rfl rfl ?_
    refine J_if_ne Z.1 67 dX13_missesRow_44 (by decide) (fun c6 => ?_) (fun c6 => ?_)
    · rw [if_neg c6] at hf
      refine J_lv [] rfl ?_
      exact pX13_missesRow_b67_ok Z hK t0   hf
    · rw [if_pos c6] at hf
      exact pX13_missesRow_b47_ok Z hK t0  _ hf
def pX13_missesRow (g : MT) (h : CT) (this : Nat) (p1 : Int32) : Option Int32 := tg g this 12 (bd (pX13_at g h this p1 0) fun x1 => (if (pX13_readsA x1) = 0 then pX13_missesRow_b27 g h this p1  x1 else bd (pX13_at g h this p1 2) fun x4 => (bd (pX13_misses g h this x4) fun x6 => (if x6 = 0 then pX13_missesRow_b27 g h this p1  x1 else pX13_missesRow_b67 g h this p1  ))))
set_option maxRecDepth 10000 in
set_option maxHeartbeats 4000000 in
theorem pX13_missesRow_ok (G : Gx) (dk : Nat) (hK : 2 ≤ dk) {g : MT} {h : CT} {this : Nat} {p1 : Int32} {r0 : Int32} (hf : pX13_missesRow g h this p1 = some r0) : Ctr G dk yX13_missesRow cX13_missesRow 3 (some .boolean) [va_rf (some this), .int p1] g h (some (.int r0)) g h := by
  refine Ctr.ofZ (lv := [(0, va_rf (some this)), (1, .int p1)]) (by decide +kernel) (by simp [cat_i, cat_l, cat_d, cat_rf]) rfl fun X Z => ?_
  unfold pX13_missesRow at hf
  replace hf := tg_i hf
  obtain ⟨t0, hf⟩ := hf
  refine J_aload_n Z.1 0 dX13_missesRow_0 rfl rfl ?_
  refine J_iload_n Z.1 1 dX13_missesRow_1 rfl rfl ?_
  refine J_iconst Z.1 (v := 0) (by decide) dX13_missesRow_2 ?_
  replace hf := bd_i hf
  obtain ⟨x1, q2, hf⟩ := hf
  refine J_callV (ci := 11) (as := [.int p1, .int 0]) (rest := []) (sy := [.int x1]) Z.1 dX13_missesRow_3 cw_X13_381 (pX13_at_ok G (dk - 1) (by omega) q2) rfl rfl t0 (zG Z) rfl (by decide) (zF Z (by omega)) (zO Z (by omega) (by decide)) (zM _) Z.2.1 Z.2.1 rfl rfl ?_
  refine J_istore_n Z.1 (lv2 := [(2, .int x1), (0, va_rf (some this)), (1, .int p1)]) dX13_missesRow_6 rfl (zL Z (by decide)) rfl ?_
  refine J_iload_n Z.1 0 dX13_missesRow_7 rfl rfl ?_
  refine J_callS (as := [.int x1]) (rest := []) (sy := [.int (pX13_readsA x1)]) Z.1 dX13_missesRow_8 cw_X13_383 (pX13_readsA_ok G (dk - 1) (by omega) g h x1) (zG Z) rfl (by decide) (zF Z (by omega)) (zO Z (by omega) (by decide)) (zM _) Z.2.1 Z.2.1 rfl rfl ?_
  refine J_if_eq Z.1 27 dX13_missesRow_11 (by decide) (fun c3 => ?_) (fun c3 => ?_)
  · rw [if_pos c3] at hf
    refine J_lv [1, 2, 0] rfl ?_
    exact pX13_missesRow_b27_ok Z hK t0  _ hf
  · rw [if_neg c3] at hf
    refine J_aload_n Z.1 1 dX13_missesRow_14 rfl rfl ?_
    refine J_aload_n Z.1 1 dX13_missesRow_15 rfl rfl ?_
    refine J_iload_n Z.1 2 dX13_missesRow_16 rfl rfl ?_
    refine J_iconst Z.1 (v := 2) (by decide) dX13_missesRow_17 ?_
    replace hf := bd_i hf
    obtain ⟨x4, q5, hf⟩ := hf
    refine J_callV (ci := 11) (as := [.int p1, .int 2]) (rest := [va_rf (some this)]) (sy := [.int x4, va_rf (some this)]) Z.1 dX13_missesRow_18 cw_X13_381 (pX13_at_ok G (dk - 1) (by omega) q5) rfl rfl t0 (zG Z) rfl (by simp [cat_i, cat_l, cat_d, cat_rf]) (zF Z (by omega)) (zO Z (by omega) (by decide)) (zM _) Z.2.1 Z.2.1 rfl rfl ?_
    replace hf := bd_i hf
    obtain ⟨x6, q7, hf⟩ := hf
    refine J_callV (ci := 11) (as := [.int x4]) (rest := []) (sy := [.int x6]) Z.1 dX13_missesRow_21 cw_X13_386 (pX13_misses_ok G (dk - 1) (by omega) q7) rfl rfl t0 (zG Z) rfl (by decide) (zF Z (by omega)) (zO Z (by omega) (by decide)) (zM _) Z.2.1 Z.2.1 rfl rfl ?_
    refine J_if_ne Z.1 67 dX13_missesRow_24 (by decide) (fun c8 => ?_) (fun c8 => ?_)
    · rw [if_neg c8] at hf
      refine J_lv [] rfl ?_
      exact pX13_missesRow_b67_ok Z hK t0   hf
    · rw [if_pos c8] at hf
      refine J_lv [1, 2, 0] rfl ?_
      exact pX13_missesRow_b27_ok Z hK t0  _ hf
theorem dX13_rowTime_0 : decode cX13_rowTime 0 = .ok (.iconst 0, 1) := by decide +kernel
theorem dX13_rowTime_1 : decode cX13_rowTime 1 = .ok (.istore_n 3, 1) := by decide +kernel
theorem dX13_rowTime_2 : decode cX13_rowTime 2 = .ok (.iconst 0, 1) := by decide +kernel
theorem dX13_rowTime_3 : decode cX13_rowTime 3 = .ok (.istore 4, 2) := by decide +kernel
theorem dX13_rowTime_5 : decode cX13_rowTime 5 = .ok (.iload 4, 2) := by decide +kernel
theorem dX13_rowTime_7 : decode cX13_rowTime 7 = .ok (.aload_n 0, 1) := by decide +kernel
theorem dX13_rowTime_8 : decode cX13_rowTime 8 = .ok (.getfield 31, 3) := by decide +kernel
theorem dX13_rowTime_11 : decode cX13_rowTime 11 = .ok (.iconst 0, 1) := by decide +kernel
theorem dX13_rowTime_12 : decode cX13_rowTime 12 = .ok (.iaload, 1) := by decide +kernel
theorem dX13_rowTime_13 : decode cX13_rowTime 13 = .ok (.if_icmp .ge 23, 3) := by decide +kernel
theorem dX13_rowTime_16 : decode cX13_rowTime 16 = .ok (.iload_n 3, 1) := by decide +kernel
theorem dX13_rowTime_17 : decode cX13_rowTime 17 = .ok (.aload_n 1, 1) := by decide +kernel
theorem dX13_rowTime_18 : decode cX13_rowTime 18 = .ok (.bipush 16, 2) := by decide +kernel
theorem dX13_rowTime_20 : decode cX13_rowTime 20 = .ok (.iload_n 2, 1) := by decide +kernel
theorem dX13_rowTime_21 : decode cX13_rowTime 21 = .ok (.imul, 1) := by decide +kernel
theorem dX13_rowTime_22 : decode cX13_rowTime 22 = .ok (.iload 4, 2) := by decide +kernel
theorem dX13_rowTime_24 : decode cX13_rowTime 24 = .ok (.iadd, 1) := by decide +kernel
theorem dX13_rowTime_25 : decode cX13_rowTime 25 = .ok (.iaload, 1) := by decide +kernel
theorem dX13_rowTime_26 : decode cX13_rowTime 26 = .ok (.invokestatic 178, 3) := by decide +kernel
theorem dX13_rowTime_29 : decode cX13_rowTime 29 = .ok (.istore_n 3, 1) := by decide +kernel
theorem dX13_rowTime_30 : decode cX13_rowTime 30 = .ok (.iinc 4 1, 3) := by decide +kernel
theorem dX13_rowTime_33 : decode cX13_rowTime 33 = .ok (.goto (-28), 3) := by decide +kernel
theorem dX13_rowTime_36 : decode cX13_rowTime 36 = .ok (.iload_n 3, 1) := by decide +kernel
theorem dX13_rowTime_37 : decode cX13_rowTime 37 = .ok (.ireturn, 1) := by decide +kernel
def pX13_rowTime_b5 (g : MT) (h : CT) (this : Nat) (p1 : Nat) (p2 : Int32) (k5 : Int32 → Int32 → Option Int32) (l3 : Int32) (l4 : Int32) : Option Int32 := lt (hR h this 19) fun r1 => (nn r1 fun a1 => (tg g a1 20 (ix (gL g a1) 0 (if (hI h a1 (Int32.toNatClampNeg 0)) ≤ l4 then some l3 else tg g p1 20 (ix (gL g p1) ((16 * p2) + l4) (lt (pJ9_max_7cf53 l3 (hI h p1 (Int32.toNatClampNeg ((16 * p2) + l4)))) fun x7 => (lt (l4 + 1) fun x8 => (k5 x7 x8))))))))
set_option maxRecDepth 10000 in
set_option maxHeartbeats 4000000 in
theorem pX13_rowTime_b5_ok {X : Cx} {G : Gx} {dk : Nat} {g : MT} {r0 : Int32} {h : CT} {this : Nat} {p1 : Nat} {p2 : Int32} {k5 : Int32 → Int32 → Option Int32} (Z : Zx X G cX13_rowTime RX13 5 dk (some .int) (some (.int r0)) g h) (hK : 1 ≤ dk) (t0 : gT g this = 12) (hk5 : ∀ (l3 : Int32) (l4 : Int32), k5 l3 l4 = some r0 → J X g h 5 [(0, va_rf (some this)), (1, va_rf (some p1)), (2, .int p2), (3, .int l3), (4, .int l4)] []) (l3 : Int32) (l4 : Int32) (hf : pX13_rowTime_b5 g h this p1 p2 k5 l3 l4 = some r0) : J X g h 5 [(0, va_rf (some this)), (1, va_rf (some p1)), (2, .int p2), (3, .int l3), (4, .int l4)] [] := by
  unfold pX13_rowTime_b5 at hf
  refine J_iload Z.1 4 dX13_rowTime_5 rfl ?_
  refine J_aload_n Z.1 0 dX13_rowTime_7 rfl rfl ?_
  refine J_get (v := va_rf (hR h this 19)) Z.1 dX13_rowTime_8 fl_X13_31 t0 rfl ?_
  refine J_tr (fun r1 er1 => ?_)
  replace hf := lt_i hf r1 er1
  refine J_iconst Z.1 (v := 0) (by decide) dX13_rowTime_11 ?_
  replace hf := nn_i hf
  obtain ⟨a1, rfl, hf⟩ := hf
  replace hf := tg_i hf
  obtain ⟨t2, hf⟩ := hf
  replace hf := ix_i hf
  obtain ⟨i3, hf⟩ := hf
  refine J_iaload Z.1 dX13_rowTime_12 t2 i3 ?_
  refine J_icmp_ge Z.1 36 dX13_rowTime_13 (by decide) (fun c4 => ?_) (fun c4 => ?_)
  · rw [if_pos c4] at hf
    refine J_iload_n Z.1 3 dX13_rowTime_36 rfl rfl ?_
    cases hf
    exact J_iret Z.1 Z.2.2.2.2.2 dX13_rowTime_37
  · rw [if_neg c4] at hf
    refine J_iload_n Z.1 3 dX13_rowTime_16 rfl rfl ?_
    refine J_aload_n Z.1 1 dX13_rowTime_17 rfl rfl ?_
    refine J_bipush Z.1 (v := 16) (by decide) dX13_rowTime_18 ?_
    refine J_iload_n Z.1 2 dX13_rowTime_20 rfl rfl ?_
    refine J_imul Z.1 dX13_rowTime_21 ?_
    refine J_iload Z.1 4 dX13_rowTime_22 rfl ?_
    refine J_iadd Z.1 dX13_rowTime_24 ?_
    replace hf := tg_i hf
    obtain ⟨t5, hf⟩ := hf
    replace hf := ix_i hf
    obtain ⟨i6, hf⟩ := hf
    refine J_iaload Z.1 dX13_rowTime_25 t5 i6 ?_
    refine J_callS (as := [.int l3, .int (hI h p1 (Int32.toNatClampNeg ((16 * p2) + l4)))]) (rest := []) (sy := [.int (pJ9_max_7cf53 l3 (hI h p1 (Int32.toNatClampNeg ((16 * p2) + l4))))]) Z.1 dX13_rowTime_26 cw_X13_178 (pJ9_max_7cf53_ok G (dk - 1) (by omega) g h l3 (hI h p1 (Int32.toNatClampNeg ((16 * p2) + l4)))) (zG Z) rfl (by decide) (zF Z (by omega)) (zO Z (by omega) (by decide)) (zM _) Z.2.1 Z.2.1 rfl rfl ?_
    refine J_ti (fun x7 ex7 => ?_)
    replace hf := lt_i hf x7 ex7
    refine J_istore_n Z.1 (lv2 := [(3, .int x7), (0, va_rf (some this)), (1, va_rf (some p1)), (2, .int p2), (4, .int l4)]) dX13_rowTime_29 rfl (zL Z (by decide)) rfl ?_
    refine J_iinc Z.1 (v := 1) (lv2 := [(4, .int (l4 + 1)), (3, .int x7), (0, va_rf (some this)), (1, va_rf (some p1)), (2, .int p2)]) 4 dX13_rowTime_30 rfl (by decide) (zL Z (by decide)) rfl ?_
    obtain ⟨x8, ex8⟩ : ∃ z, z = (l4 + 1) := ⟨_, rfl⟩
    replace hf := lt_i hf x8 ex8
    rw [← ex8]
    refine J_goto Z.1 5 dX13_rowTime_33 (by decide) ?_
    refine J_lv [2, 3, 4, 1, 0] rfl ?_
    exact hk5 _ _ hf
def pX13_rowTime_l5 (g : MT) (h : CT) (this : Nat) (p1 : Nat) (p2 : Int32) : Nat → Int32 → Int32 → Option Int32
  | 0, _, _ => none
  | n + 1, l3, l4 => pX13_rowTime_b5 g h this p1 p2 (pX13_rowTime_l5 g h this p1 p2 n) l3 l4
theorem pX13_rowTime_l5_ok {X : Cx} {G : Gx} {dk : Nat} {g : MT} {r0 : Int32} {h : CT} {this : Nat} {p1 : Nat} {p2 : Int32} (Z : Zx X G cX13_rowTime RX13 5 dk (some .int) (some (.int r0)) g h) (hK : 1 ≤ dk) (t0 : gT g this = 12) : ∀ (n : Nat) (l3 : Int32) (l4 : Int32), pX13_rowTime_l5 g h this p1 p2 n l3 l4 = some r0 → J X g h 5 [(0, va_rf (some this)), (1, va_rf (some p1)), (2, .int p2), (3, .int l3), (4, .int l4)] [] := by
  intro n
  induction n with
  | zero => intro l3 l4 hf; cases hf
  | succ n ih => intro l3 l4 hf; exact pX13_rowTime_b5_ok Z hK t0 ih l3 l4 hf
def pX13_rowTime (g : MT) (h : CT) (this : Nat) (p1 : Nat) (p2 : Int32) : Option Int32 := tg g this 12 (pX13_rowTime_l5 g h this p1 p2  FUEL 0 0)
set_option maxRecDepth 10000 in
set_option maxHeartbeats 4000000 in
theorem pX13_rowTime_ok (G : Gx) (dk : Nat) (hK : 1 ≤ dk) {g : MT} {h : CT} {this : Nat} {p1 : Nat} {p2 : Int32} {r0 : Int32} (hf : pX13_rowTime g h this p1 p2 = some r0) : Ctr G dk yX13_rowTime cX13_rowTime 5 (some .int) [va_rf (some this), va_rf (some p1), .int p2] g h (some (.int r0)) g h := by
  refine Ctr.ofZ (lv := [(0, va_rf (some this)), (1, va_rf (some p1)), (2, .int p2)]) (by decide +kernel) (by simp [cat_i, cat_l, cat_d, cat_rf]) rfl fun X Z => ?_
  unfold pX13_rowTime at hf
  replace hf := tg_i hf
  obtain ⟨t0, hf⟩ := hf
  refine J_iconst Z.1 (v := 0) (by decide) dX13_rowTime_0 ?_
  refine J_istore_n Z.1 (lv2 := [(3, .int 0), (0, va_rf (some this)), (1, va_rf (some p1)), (2, .int p2)]) dX13_rowTime_1 rfl (zL Z (by decide)) rfl ?_
  refine J_iconst Z.1 (v := 0) (by decide) dX13_rowTime_2 ?_
  refine J_istore Z.1 (lv2 := [(4, .int 0), (3, .int 0), (0, va_rf (some this)), (1, va_rf (some p1)), (2, .int p2)]) dX13_rowTime_3 (zL Z (by decide)) rfl ?_
  refine J_lv [2, 3, 4, 1, 0] rfl ?_
  exact pX13_rowTime_l5_ok Z hK t0  FUEL _ _ hf
