/-! written by wip/whole/gen.py out of the printed bytecode -/
theorem dX13_isFolded_0 : decode cX13_isFolded 0 = .ok (.iload_n 0, 1) := by decide +kernel
theorem dX13_isFolded_1 : decode cX13_isFolded 1 = .ok (.bipush 23, 2) := by decide +kernel
theorem dX13_isFolded_3 : decode cX13_isFolded 3 = .ok (.if_icmp .eq 9, 3) := by decide +kernel
theorem dX13_isFolded_6 : decode cX13_isFolded 6 = .ok (.iload_n 0, 1) := by decide +kernel
theorem dX13_isFolded_7 : decode cX13_isFolded 7 = .ok (.bipush 24, 2) := by decide +kernel
theorem dX13_isFolded_9 : decode cX13_isFolded 9 = .ok (.if_icmp .ne 7, 3) := by decide +kernel
theorem dX13_isFolded_12 : decode cX13_isFolded 12 = .ok (.iconst 1, 1) := by decide +kernel
theorem dX13_isFolded_13 : decode cX13_isFolded 13 = .ok (.goto 4, 3) := by decide +kernel
theorem dX13_isFolded_16 : decode cX13_isFolded 16 = .ok (.iconst 0, 1) := by decide +kernel
theorem dX13_isFolded_17 : decode cX13_isFolded 17 = .ok (.ireturn, 1) := by decide +kernel
def pX13_isFolded_b12 (p0 : Int32)  : Int32 := 1
set_option maxRecDepth 10000 in
set_option maxHeartbeats 4000000 in
theorem pX13_isFolded_b12_ok {X : Cx} {G : Gx} {dk : Nat} {g : MT} {r0 : Int32} {h0 : CT} {p0 : Int32} (Z : Zx X G cX13_isFolded RX13 1 dk (some .boolean) (some (.int r0)) g h0) (hK : 0 ≤ dk)  (hf : pX13_isFolded_b12 p0 = r0) : J X g h0 12 [] [] := by
  unfold pX13_isFolded_b12 at hf
  refine J_iconst Z.1 (v := 1) (by decide) dX13_isFolded_12 ?_
  refine J_goto Z.1 17 dX13_isFolded_13 (by decide) ?_
  cases hf
  exact J_zret Z.1 Z.2.2.2.2.2 (z_n (Or.inr rfl)) dX13_isFolded_17
def pX13_isFolded (p0 : Int32) : Int32 := if p0 = 23 then pX13_isFolded_b12 p0   else if p0 = 24 then pX13_isFolded_b12 p0   else 0
set_option maxRecDepth 10000 in
set_option maxHeartbeats 4000000 in
theorem pX13_isFolded_ok (G : Gx) (dk : Nat) (hK : 0 ≤ dk) (g : MT) (h0 : CT) (p0 : Int32) : Ctr G dk yX13_isFolded cX13_isFolded 1 (some .boolean) [.int p0] g h0 (some (.int (pX13_isFolded p0))) g h0 := by
  obtain ⟨r0, hf⟩ : ∃ z, pX13_isFolded p0 = z := ⟨_, rfl⟩
  rw [hf]
  refine Ctr.ofZ (lv := [(0, .int p0)]) (by decide +kernel) (by simp [cat_i, cat_l, cat_d, cat_rf]) rfl fun X Z => ?_
  unfold pX13_isFolded at hf
  refine J_iload_n Z.1 0 dX13_isFolded_0 rfl rfl ?_
  refine J_bipush Z.1 (v := 23) (by decide) dX13_isFolded_1 ?_
  refine J_icmp_eq Z.1 12 dX13_isFolded_3 (by decide) (fun c1 => ?_) (fun c1 => ?_)
  · rw [if_pos c1] at hf
    refine J_lv [] rfl ?_
    exact pX13_isFolded_b12_ok Z hK   hf
  · rw [if_neg c1] at hf
    refine J_iload_n Z.1 0 dX13_isFolded_6 rfl rfl ?_
    refine J_bipush Z.1 (v := 24) (by decide) dX13_isFolded_7 ?_
    refine J_icmp_ne Z.1 16 dX13_isFolded_9 (by decide) (fun c2 => ?_) (fun c2 => ?_)
    · rw [if_neg c2] at hf
      refine J_iconst Z.1 (v := 0) (by decide) dX13_isFolded_16 ?_
      cases hf
      exact J_zret Z.1 Z.2.2.2.2.2 (z_n (Or.inl rfl)) dX13_isFolded_17
    · rw [if_pos c2] at hf
      refine J_lv [] rfl ?_
      exact pX13_isFolded_b12_ok Z hK   hf
theorem pX13_isFolded_z (p0 : Int32) : is01 (pX13_isFolded p0) := by
  unfold pX13_isFolded
  simp only [pX13_isFolded_b12]
  (try split) <;> (try split) <;> (try split) <;> (try split) <;> (try split) <;> (try split) <;> (try split) <;> (try split) <;> first | exact Or.inl rfl | exact Or.inr rfl
theorem dX13_readsA_0 : decode cX13_readsA 0 = .ok (.iload_n 0, 1) := by decide +kernel
theorem dX13_readsA_1 : decode cX13_readsA 1 = .ok (.invokestatic 345, 3) := by decide +kernel
theorem dX13_readsA_4 : decode cX13_readsA 4 = .ok (.ifCond .ne 21, 3) := by decide +kernel
theorem dX13_readsA_7 : decode cX13_readsA 7 = .ok (.iload_n 0, 1) := by decide +kernel
theorem dX13_readsA_8 : decode cX13_readsA 8 = .ok (.bipush 17, 2) := by decide +kernel
theorem dX13_readsA_10 : decode cX13_readsA 10 = .ok (.if_icmp .eq 15, 3) := by decide +kernel
theorem dX13_readsA_13 : decode cX13_readsA 13 = .ok (.iload_n 0, 1) := by decide +kernel
theorem dX13_readsA_14 : decode cX13_readsA 14 = .ok (.bipush 18, 2) := by decide +kernel
theorem dX13_readsA_16 : decode cX13_readsA 16 = .ok (.if_icmp .eq 9, 3) := by decide +kernel
theorem dX13_readsA_19 : decode cX13_readsA 19 = .ok (.iload_n 0, 1) := by decide +kernel
theorem dX13_readsA_20 : decode cX13_readsA 20 = .ok (.bipush 21, 2) := by decide +kernel
theorem dX13_readsA_22 : decode cX13_readsA 22 = .ok (.if_icmp .ne 7, 3) := by decide +kernel
theorem dX13_readsA_25 : decode cX13_readsA 25 = .ok (.iconst 1, 1) := by decide +kernel
theorem dX13_readsA_26 : decode cX13_readsA 26 = .ok (.goto 4, 3) := by decide +kernel
theorem dX13_readsA_29 : decode cX13_readsA 29 = .ok (.iconst 0, 1) := by decide +kernel
theorem dX13_readsA_30 : decode cX13_readsA 30 = .ok (.ireturn, 1) := by decide +kernel
def pX13_readsA_b25 (p0 : Int32)  : Int32 := 1
set_option maxRecDepth 10000 in
set_option maxHeartbeats 4000000 in
theorem pX13_readsA_b25_ok {X : Cx} {G : Gx} {dk : Nat} {g : MT} {r0 : Int32} {h0 : CT} {p0 : Int32} (Z : Zx X G cX13_readsA RX13 1 dk (some .boolean) (some (.int r0)) g h0) (hK : 1 ≤ dk)  (hf : pX13_readsA_b25 p0 = r0) : J X g h0 25 [] [] := by
  unfold pX13_readsA_b25 at hf
  refine J_iconst Z.1 (v := 1) (by decide) dX13_readsA_25 ?_
  refine J_goto Z.1 30 dX13_readsA_26 (by decide) ?_
  cases hf
  exact J_zret Z.1 Z.2.2.2.2.2 (z_n (Or.inr rfl)) dX13_readsA_30
def pX13_readsA (p0 : Int32) : Int32 := if (pX13_isReckoned p0) = 0 then if p0 = 17 then pX13_readsA_b25 p0   else if p0 = 18 then pX13_readsA_b25 p0   else if p0 = 21 then pX13_readsA_b25 p0   else 0 else pX13_readsA_b25 p0  
set_option maxRecDepth 10000 in
set_option maxHeartbeats 4000000 in
theorem pX13_readsA_ok (G : Gx) (dk : Nat) (hK : 1 ≤ dk) (g : MT) (h0 : CT) (p0 : Int32) : Ctr G dk yX13_readsA cX13_readsA 1 (some .boolean) [.int p0] g h0 (some (.int (pX13_readsA p0))) g h0 := by
  obtain ⟨r0, hf⟩ : ∃ z, pX13_readsA p0 = z := ⟨_, rfl⟩
  rw [hf]
  refine Ctr.ofZ (lv := [(0, .int p0)]) (by decide +kernel) (by simp [cat_i, cat_l, cat_d, cat_rf]) rfl fun X Z => ?_
  unfold pX13_readsA at hf
  refine J_iload_n Z.1 0 dX13_readsA_0 rfl rfl ?_
  refine J_callS (as := [.int p0]) (rest := []) (sy := [.int (pX13_isReckoned p0)]) Z.1 dX13_readsA_1 cw_X13_345 (pX13_isReckoned_ok G (dk - 1) (by omega) g h0 p0) (zG Z) rfl (by decide) (zF Z (by omega)) (zO Z (by omega) (by decide)) (zM _) Z.2.1 Z.2.1 rfl rfl ?_
  refine J_if_ne Z.1 25 dX13_readsA_4 (by decide) (fun c1 => ?_) (fun c1 => ?_)
  · rw [if_neg c1] at hf
    refine J_lv [] rfl ?_
    exact pX13_readsA_b25_ok Z hK   hf
  · rw [if_pos c1] at hf
    refine J_iload_n Z.1 0 dX13_readsA_7 rfl rfl ?_
    refine J_bipush Z.1 (v := 17) (by decide) dX13_readsA_8 ?_
    refine J_icmp_eq Z.1 25 dX13_readsA_10 (by decide) (fun c2 => ?_) (fun c2 => ?_)
    · rw [if_pos c2] at hf
      refine J_lv [] rfl ?_
      exact pX13_readsA_b25_ok Z hK   hf
    · rw [if_neg c2] at hf
      refine J_iload_n Z.1 0 dX13_readsA_13 rfl rfl ?_
      refine J_bipush Z.1 (v := 18) (by decide) dX13_readsA_14 ?_
      refine J_icmp_eq Z.1 25 dX13_readsA_16 (by decide) (fun c3 => ?_) (fun c3 => ?_)
      · rw [if_pos c3] at hf
        refine J_lv [] rfl ?_
        exact pX13_readsA_b25_ok Z hK   hf
      · rw [if_neg c3] at hf
        refine J_iload_n Z.1 0 dX13_readsA_19 rfl rfl ?_
        refine J_bipush Z.1 (v := 21) (by decide) dX13_readsA_20 ?_
        refine J_icmp_ne Z.1 29 dX13_readsA_22 (by decide) (fun c4 => ?_) (fun c4 => ?_)
        · rw [if_neg c4] at hf
          refine J_iconst Z.1 (v := 0) (by decide) dX13_readsA_29 ?_
          cases hf
          exact J_zret Z.1 Z.2.2.2.2.2 (z_n (Or.inl rfl)) dX13_readsA_30
        · rw [if_pos c4] at hf
          refine J_lv [] rfl ?_
          exact pX13_readsA_b25_ok Z hK   hf
theorem pX13_readsA_z (p0 : Int32) : is01 (pX13_readsA p0) := by
  unfold pX13_readsA
  simp only [pX13_readsA_b25]
  (try split) <;> (try split) <;> (try split) <;> (try split) <;> (try split) <;> (try split) <;> (try split) <;> (try split) <;> first | exact Or.inl rfl | exact Or.inr rfl | exact pX13_isReckoned_z _
theorem dX13_readsB_0 : decode cX13_readsB 0 = .ok (.iload_n 0, 1) := by decide +kernel
theorem dX13_readsB_1 : decode cX13_readsB 1 = .ok (.invokestatic 348, 3) := by decide +kernel
theorem dX13_readsB_4 : decode cX13_readsB 4 = .ok (.ifCond .ne 10, 3) := by decide +kernel
theorem dX13_readsB_7 : decode cX13_readsB 7 = .ok (.iload_n 0, 1) := by decide +kernel
theorem dX13_readsB_8 : decode cX13_readsB 8 = .ok (.invokestatic 351, 3) := by decide +kernel
theorem dX13_readsB_11 : decode cX13_readsB 11 = .ok (.ifCond .eq 7, 3) := by decide +kernel
theorem dX13_readsB_14 : decode cX13_readsB 14 = .ok (.iconst 1, 1) := by decide +kernel
theorem dX13_readsB_15 : decode cX13_readsB 15 = .ok (.goto 4, 3) := by decide +kernel
theorem dX13_readsB_18 : decode cX13_readsB 18 = .ok (.iconst 0, 1) := by decide +kernel
theorem dX13_readsB_19 : decode cX13_readsB 19 = .ok (.ireturn, 1) := by decide +kernel
def pX13_readsB_b14 (p0 : Int32)  : Int32 := 1
set_option maxRecDepth 10000 in
set_option maxHeartbeats 4000000 in
theorem pX13_readsB_b14_ok {X : Cx} {G : Gx} {dk : Nat} {g : MT} {r0 : Int32} {h0 : CT} {p0 : Int32} (Z : Zx X G cX13_readsB RX13 1 dk (some .boolean) (some (.int r0)) g h0) (hK : 1 ≤ dk)  (hf : pX13_readsB_b14 p0 = r0) : J X g h0 14 [] [] := by
  unfold pX13_readsB_b14 at hf
  refine J_iconst Z.1 (v := 1) (by decide) dX13_readsB_14 ?_
  refine J_goto Z.1 19 dX13_readsB_15 (by decide) ?_
  cases hf
  exact J_zret Z.1 Z.2.2.2.2.2 (z_n (Or.inr rfl)) dX13_readsB_19
def pX13_readsB (p0 : Int32) : Int32 := if (pX13_isTwo p0) = 0 then if (pX13_isIndexed p0) = 0 then 0 else pX13_readsB_b14 p0   else pX13_readsB_b14 p0  
set_option maxRecDepth 10000 in
set_option maxHeartbeats 4000000 in
theorem pX13_readsB_ok (G : Gx) (dk : Nat) (hK : 1 ≤ dk) (g : MT) (h0 : CT) (p0 : Int32) : Ctr G dk yX13_readsB cX13_readsB 1 (some .boolean) [.int p0] g h0 (some (.int (pX13_readsB p0))) g h0 := by
  obtain ⟨r0, hf⟩ : ∃ z, pX13_readsB p0 = z := ⟨_, rfl⟩
  rw [hf]
  refine Ctr.ofZ (lv := [(0, .int p0)]) (by decide +kernel) (by simp [cat_i, cat_l, cat_d, cat_rf]) rfl fun X Z => ?_
  unfold pX13_readsB at hf
  refine J_iload_n Z.1 0 dX13_readsB_0 rfl rfl ?_
  refine J_callS (as := [.int p0]) (rest := []) (sy := [.int (pX13_isTwo p0)]) Z.1 dX13_readsB_1 cw_X13_348 (pX13_isTwo_ok G (dk - 1) (by omega) g h0 p0) (zG Z) rfl (by decide) (zF Z (by omega)) (zO Z (by omega) (by decide)) (zM _) Z.2.1 Z.2.1 rfl rfl ?_
  refine J_if_ne Z.1 14 dX13_readsB_4 (by decide) (fun c1 => ?_) (fun c1 => ?_)
  · rw [if_neg c1] at hf
    refine J_lv [] rfl ?_
    exact pX13_readsB_b14_ok Z hK   hf
  · rw [if_pos c1] at hf
    refine J_iload_n Z.1 0 dX13_readsB_7 rfl rfl ?_
    refine J_callS (as := [.int p0]) (rest := []) (sy := [.int (pX13_isIndexed p0)]) Z.1 dX13_readsB_8 cw_X13_351 (pX13_isIndexed_ok G (dk - 1) (by omega) g h0 p0) (zG Z) rfl (by decide) (zF Z (by omega)) (zO Z (by omega) (by decide)) (zM _) Z.2.1 Z.2.1 rfl rfl ?_
    refine J_if_eq Z.1 18 dX13_readsB_11 (by decide) (fun c2 => ?_) (fun c2 => ?_)
    · rw [if_pos c2] at hf
      refine J_iconst Z.1 (v := 0) (by decide) dX13_readsB_18 ?_
      cases hf
      exact J_zret Z.1 Z.2.2.2.2.2 (z_n (Or.inl rfl)) dX13_readsB_19
    · rw [if_neg c2] at hf
      refine J_lv [] rfl ?_
      exact pX13_readsB_b14_ok Z hK   hf
theorem pX13_readsB_z (p0 : Int32) : is01 (pX13_readsB p0) := by
  unfold pX13_readsB
  simp only [pX13_readsB_b14]
  (try split) <;> (try split) <;> (try split) <;> (try split) <;> (try split) <;> (try split) <;> (try split) <;> (try split) <;> first | exact Or.inl rfl | exact Or.inr rfl | exact pX13_isIn_z _ _ _ | exact pX13_isIndexed_z _ | exact pX13_isTwo_z _
theorem dX13_readsD_0 : decode cX13_readsD 0 = .ok (.iload_n 0, 1) := by decide +kernel
theorem dX13_readsD_1 : decode cX13_readsD 1 = .ok (.iconst 4, 1) := by decide +kernel
theorem dX13_readsD_2 : decode cX13_readsD 2 = .ok (.if_icmp .eq 23, 3) := by decide +kernel
theorem dX13_readsD_5 : decode cX13_readsD 5 = .ok (.iload_n 0, 1) := by decide +kernel
theorem dX13_readsD_6 : decode cX13_readsD 6 = .ok (.bipush 6, 2) := by decide +kernel
theorem dX13_readsD_8 : decode cX13_readsD 8 = .ok (.if_icmp .eq 17, 3) := by decide +kernel
theorem dX13_readsD_11 : decode cX13_readsD 11 = .ok (.iload_n 0, 1) := by decide +kernel
theorem dX13_readsD_12 : decode cX13_readsD 12 = .ok (.invokestatic 354, 3) := by decide +kernel
theorem dX13_readsD_15 : decode cX13_readsD 15 = .ok (.ifCond .ne 10, 3) := by decide +kernel
theorem dX13_readsD_18 : decode cX13_readsD 18 = .ok (.iload_n 0, 1) := by decide +kernel
theorem dX13_readsD_19 : decode cX13_readsD 19 = .ok (.invokestatic 357, 3) := by decide +kernel
theorem dX13_readsD_22 : decode cX13_readsD 22 = .ok (.ifCond .eq 7, 3) := by decide +kernel
theorem dX13_readsD_25 : decode cX13_readsD 25 = .ok (.iconst 1, 1) := by decide +kernel
theorem dX13_readsD_26 : decode cX13_readsD 26 = .ok (.goto 4, 3) := by decide +kernel
theorem dX13_readsD_29 : decode cX13_readsD 29 = .ok (.iconst 0, 1) := by decide +kernel
theorem dX13_readsD_30 : decode cX13_readsD 30 = .ok (.ireturn, 1) := by decide +kernel
def pX13_readsD_b25 (p0 : Int32)  : Int32 := 1
set_option maxRecDepth 10000 in
set_option maxHeartbeats 4000000 in
theorem pX13_readsD_b25_ok {X : Cx} {G : Gx} {dk : Nat} {g : MT} {r0 : Int32} {h0 : CT} {p0 : Int32} (Z : Zx X G cX13_readsD RX13 1 dk (some .boolean) (some (.int r0)) g h0) (hK : 1 ≤ dk)  (hf : pX13_readsD_b25 p0 = r0) : J X g h0 25 [] [] := by
  unfold pX13_readsD_b25 at hf
  refine J_iconst Z.1 (v := 1) (by decide) dX13_readsD_25 ?_
  refine J_goto Z.1 30 dX13_readsD_26 (by decide) ?_
  cases hf
  exact J_zret Z.1 Z.2.2.2.2.2 (z_n (Or.inr rfl)) dX13_readsD_30
def pX13_readsD (p0 : Int32) : Int32 := if p0 = 4 then pX13_readsD_b25 p0   else if p0 = 6 then pX13_readsD_b25 p0   else if (pX13_isCompared p0) = 0 then if (pX13_isFolded p0) = 0 then 0 else pX13_readsD_b25 p0   else pX13_readsD_b25 p0  
set_option maxRecDepth 10000 in
set_option maxHeartbeats 4000000 in
theorem pX13_readsD_ok (G : Gx) (dk : Nat) (hK : 1 ≤ dk) (g : MT) (h0 : CT) (p0 : Int32) : Ctr G dk yX13_readsD cX13_readsD 1 (some .boolean) [.int p0] g h0 (some (.int (pX13_readsD p0))) g h0 := by
  obtain ⟨r0, hf⟩ : ∃ z, pX13_readsD p0 = z := ⟨_, rfl⟩
  rw [hf]
  refine Ctr.ofZ (lv := [(0, .int p0)]) (by decide +kernel) (by simp [cat_i, cat_l, cat_d, cat_rf]) rfl fun X Z => ?_
  unfold pX13_readsD at hf
  refine J_iload_n Z.1 0 dX13_readsD_0 rfl rfl ?_
  refine J_iconst Z.1 (v := 4) (by decide) dX13_readsD_1 ?_
  refine J_icmp_eq Z.1 25 dX13_readsD_2 (by decide) (fun c1 => ?_) (fun c1 => ?_)
  · rw [if_pos c1] at hf
    refine J_lv [] rfl ?_
    exact pX13_readsD_b25_ok Z hK   hf
  · rw [if_neg c1] at hf
    refine J_iload_n Z.1 0 dX13_readsD_5 rfl rfl ?_
    refine J_bipush Z.1 (v := 6) (by decide) dX13_readsD_6 ?_
    refine J_icmp_eq Z.1 25 dX13_readsD_8 (by decide) (fun c2 => ?_) (fun c2 => ?_)
    · rw [if_pos c2] at hf
      refine J_lv [] rfl ?_
      exact pX13_readsD_b25_ok Z hK   hf
    · rw [if_neg c2] at hf
      refine J_iload_n Z.1 0 dX13_readsD_11 rfl rfl ?_
      refine J_callS (as := [.int p0]) (rest := []) (sy := [.int (pX13_isCompared p0)]) Z.1 dX13_readsD_12 cw_X13_354 (pX13_isCompared_ok G (dk - 1) (by omega) g h0 p0) (zG Z) rfl (by decide) (zF Z (by omega)) (zO Z (by omega) (by decide)) (zM _) Z.2.1 Z.2.1 rfl rfl ?_
      refine J_if_ne Z.1 25 dX13_readsD_15 (by decide) (fun c3 => ?_) (fun c3 => ?_)
      · rw [if_neg c3] at hf
        refine J_lv [] rfl ?_
        exact pX13_readsD_b25_ok Z hK   hf
      · rw [if_pos c3] at hf
        refine J_iload_n Z.1 0 dX13_readsD_18 rfl rfl ?_
        refine J_callS (as := [.int p0]) (rest := []) (sy := [.int (pX13_isFolded p0)]) Z.1 dX13_readsD_19 cw_X13_357 (pX13_isFolded_ok G (dk - 1) (by omega) g h0 p0) (zG Z) rfl (by decide) (zF Z (by omega)) (zO Z (by omega) (by decide)) (zM _) Z.2.1 Z.2.1 rfl rfl ?_
        refine J_if_eq Z.1 29 dX13_readsD_22 (by decide) (fun c4 => ?_) (fun c4 => ?_)
        · rw [if_pos c4] at hf
          refine J_iconst Z.1 (v := 0) (by decide) dX13_readsD_29 ?_
          cases hf
          exact J_zret Z.1 Z.2.2.2.2.2 (z_n (Or.inl rfl)) dX13_readsD_30
        · rw [if_neg c4] at hf
          refine J_lv [] rfl ?_
          exact pX13_readsD_b25_ok Z hK   hf
theorem pX13_readsD_z (p0 : Int32) : is01 (pX13_readsD p0) := by
  unfold pX13_readsD
  simp only [pX13_readsD_b25]
  (try split) <;> (try split) <;> (try split) <;> (try split) <;> (try split) <;> (try split) <;> (try split) <;> (try split) <;> first | exact Or.inl rfl | exact Or.inr rfl | exact pX13_isCompared_z _ | exact pX13_isFolded_z _
theorem dX13_writesD_0 : decode cX13_writesD 0 = .ok (.iload_n 0, 1) := by decide +kernel
theorem dX13_writesD_1 : decode cX13_writesD 1 = .ok (.iconst 1, 1) := by decide +kernel
theorem dX13_writesD_2 : decode cX13_writesD 2 = .ok (.if_icmp .eq 25, 3) := by decide +kernel
theorem dX13_writesD_5 : decode cX13_writesD 5 = .ok (.iload_n 0, 1) := by decide +kernel
theorem dX13_writesD_6 : decode cX13_writesD 6 = .ok (.iconst 2, 1) := by decide +kernel
theorem dX13_writesD_7 : decode cX13_writesD 7 = .ok (.if_icmp .eq 20, 3) := by decide +kernel
theorem dX13_writesD_10 : decode cX13_writesD 10 = .ok (.iload_n 0, 1) := by decide +kernel
theorem dX13_writesD_11 : decode cX13_writesD 11 = .ok (.iconst 3, 1) := by decide +kernel
theorem dX13_writesD_12 : decode cX13_writesD 12 = .ok (.if_icmp .eq 15, 3) := by decide +kernel
theorem dX13_writesD_15 : decode cX13_writesD 15 = .ok (.iload_n 0, 1) := by decide +kernel
theorem dX13_writesD_16 : decode cX13_writesD 16 = .ok (.iconst 5, 1) := by decide +kernel
theorem dX13_writesD_17 : decode cX13_writesD 17 = .ok (.if_icmp .eq 10, 3) := by decide +kernel
theorem dX13_writesD_20 : decode cX13_writesD 20 = .ok (.iload_n 0, 1) := by decide +kernel
theorem dX13_writesD_21 : decode cX13_writesD 21 = .ok (.invokestatic 345, 3) := by decide +kernel
theorem dX13_writesD_24 : decode cX13_writesD 24 = .ok (.ifCond .eq 7, 3) := by decide +kernel
theorem dX13_writesD_27 : decode cX13_writesD 27 = .ok (.iconst 1, 1) := by decide +kernel
theorem dX13_writesD_28 : decode cX13_writesD 28 = .ok (.goto 4, 3) := by decide +kernel
theorem dX13_writesD_31 : decode cX13_writesD 31 = .ok (.iconst 0, 1) := by decide +kernel
theorem dX13_writesD_32 : decode cX13_writesD 32 = .ok (.ireturn, 1) := by decide +kernel
def pX13_writesD_b27 (p0 : Int32)  : Int32 := 1
set_option maxRecDepth 10000 in
set_option maxHeartbeats 4000000 in
theorem pX13_writesD_b27_ok {X : Cx} {G : Gx} {dk : Nat} {g : MT} {r0 : Int32} {h0 : CT} {p0 : Int32} (Z : Zx X G cX13_writesD RX13 1 dk (some .boolean) (some (.int r0)) g h0) (hK : 1 ≤ dk)  (hf : pX13_writesD_b27 p0 = r0) : J X g h0 27 [] [] := by
  unfold pX13_writesD_b27 at hf
  refine J_iconst Z.1 (v := 1) (by decide) dX13_writesD_27 ?_
  refine J_goto Z.1 32 dX13_writesD_28 (by decide) ?_
  cases hf
  exact J_zret Z.1 Z.2.2.2.2.2 (z_n (Or.inr rfl)) dX13_writesD_32
def pX13_writesD (p0 : Int32) : Int32 := if p0 = 1 then pX13_writesD_b27 p0   else if p0 = 2 then pX13_writesD_b27 p0   else if p0 = 3 then pX13_writesD_b27 p0   else if p0 = 5 then pX13_writesD_b27 p0   else if (pX13_isReckoned p0) = 0 then 0 else pX13_writesD_b27 p0  
set_option maxRecDepth 10000 in
set_option maxHeartbeats 4000000 in
theorem pX13_writesD_ok (G : Gx) (dk : Nat) (hK : 1 ≤ dk) (g : MT) (h0 : CT) (p0 : Int32) : Ctr G dk yX13_writesD cX13_writesD 1 (some .boolean) [.int p0] g h0 (some (.int (pX13_writesD p0))) g h0 := by
  obtain ⟨r0, hf⟩ : ∃ z, pX13_writesD p0 = z := ⟨_, rfl⟩
  rw [hf]
  refine Ctr.ofZ (lv := [(0, .int p0)]) (by decide +kernel) (by simp [cat_i, cat_l, cat_d, cat_rf]) rfl fun X Z => ?_
  unfold pX13_writesD at hf
  refine J_iload_n Z.1 0 dX13_writesD_0 rfl rfl ?_
  refine J_iconst Z.1 (v := 1) (by decide) dX13_writesD_1 ?_
  refine J_icmp_eq Z.1 27 dX13_writesD_2 (by decide) (fun c1 => ?_) (fun c1 => ?_)
  · rw [if_pos c1] at hf
    refine J_lv [] rfl ?_
    exact pX13_writesD_b27_ok Z hK   hf
  · rw [if_neg c1] at hf
    refine J_iload_n Z.1 0 dX13_writesD_5 rfl rfl ?_
    refine J_iconst Z.1 (v := 2) (by decide) dX13_writesD_6 ?_
    refine J_icmp_eq Z.1 27 dX13_writesD_7 (by decide) (fun c2 => ?_) (fun c2 => ?_)
    · rw [if_pos c2] at hf
      refine J_lv [] rfl ?_
      exact pX13_writesD_b27_ok Z hK   hf
    · rw [if_neg c2] at hf
      refine J_iload_n Z.1 0 dX13_writesD_10 rfl rfl ?_
      refine J_iconst Z.1 (v := 3) (by decide) dX13_writesD_11 ?_
      refine J_icmp_eq Z.1 27 dX13_writesD_12 (by decide) (fun c3 => ?_) (fun c3 => ?_)
      · rw [if_pos c3] at hf
        refine J_lv [] rfl ?_
        exact pX13_writesD_b27_ok Z hK   hf
      · rw [if_neg c3] at hf
        refine J_iload_n Z.1 0 dX13_writesD_15 rfl rfl ?_
        refine J_iconst Z.1 (v := 5) (by decide) dX13_writesD_16 ?_
        refine J_icmp_eq Z.1 27 dX13_writesD_17 (by decide) (fun c4 => ?_) (fun c4 => ?_)
        · rw [if_pos c4] at hf
          refine J_lv [] rfl ?_
          exact pX13_writesD_b27_ok Z hK   hf
        · rw [if_neg c4] at hf
          refine J_iload_n Z.1 0 dX13_writesD_20 rfl rfl ?_
          refine J_callS (as := [.int p0]) (rest := []) (sy := [.int (pX13_isReckoned p0)]) Z.1 dX13_writesD_21 cw_X13_345 (pX13_isReckoned_ok G (dk - 1) (by omega) g h0 p0) (zG Z) rfl (by decide) (zF Z (by omega)) (zO Z (by omega) (by decide)) (zM _) Z.2.1 Z.2.1 rfl rfl ?_
          refine J_if_eq Z.1 31 dX13_writesD_24 (by decide) (fun c5 => ?_) (fun c5 => ?_)
          · rw [if_pos c5] at hf
            refine J_iconst Z.1 (v := 0) (by decide) dX13_writesD_31 ?_
            cases hf
            exact J_zret Z.1 Z.2.2.2.2.2 (z_n (Or.inl rfl)) dX13_writesD_32
          · rw [if_neg c5] at hf
            refine J_lv [] rfl ?_
            exact pX13_writesD_b27_ok Z hK   hf
theorem pX13_writesD_z (p0 : Int32) : is01 (pX13_writesD p0) := by
  unfold pX13_writesD
  simp only [pX13_writesD_b27]
  (try split) <;> (try split) <;> (try split) <;> (try split) <;> (try split) <;> (try split) <;> (try split) <;> (try split) <;> first | exact Or.inl rfl | exact Or.inr rfl | exact pX13_isReckoned_z _
theorem dX13_unitOf_0 : decode cX13_unitOf 0 = .ok (.iload_n 0, 1) := by decide +kernel
theorem dX13_unitOf_1 : decode cX13_unitOf 1 = .ok (.invokestatic 360, 3) := by decide +kernel
theorem dX13_unitOf_4 : decode cX13_unitOf 4 = .ok (.ifCond .eq 5, 3) := by decide +kernel
theorem dX13_unitOf_7 : decode cX13_unitOf 7 = .ok (.iconst 0, 1) := by decide +kernel
theorem dX13_unitOf_8 : decode cX13_unitOf 8 = .ok (.ireturn, 1) := by decide +kernel
theorem dX13_unitOf_9 : decode cX13_unitOf 9 = .ok (.iload_n 0, 1) := by decide +kernel
theorem dX13_unitOf_10 : decode cX13_unitOf 10 = .ok (.bipush 9, 2) := by decide +kernel
theorem dX13_unitOf_12 : decode cX13_unitOf 12 = .ok (.if_icmp .ne 5, 3) := by decide +kernel
theorem dX13_unitOf_15 : decode cX13_unitOf 15 = .ok (.iconst 1, 1) := by decide +kernel
theorem dX13_unitOf_16 : decode cX13_unitOf 16 = .ok (.ireturn, 1) := by decide +kernel
theorem dX13_unitOf_17 : decode cX13_unitOf 17 = .ok (.iload_n 0, 1) := by decide +kernel
theorem dX13_unitOf_18 : decode cX13_unitOf 18 = .ok (.bipush 10, 2) := by decide +kernel
theorem dX13_unitOf_20 : decode cX13_unitOf 20 = .ok (.if_icmp .eq 9, 3) := by decide +kernel
theorem dX13_unitOf_23 : decode cX13_unitOf 23 = .ok (.iload_n 0, 1) := by decide +kernel
theorem dX13_unitOf_24 : decode cX13_unitOf 24 = .ok (.bipush 11, 2) := by decide +kernel
theorem dX13_unitOf_26 : decode cX13_unitOf 26 = .ok (.if_icmp .ne 5, 3) := by decide +kernel
theorem dX13_unitOf_29 : decode cX13_unitOf 29 = .ok (.iconst 2, 1) := by decide +kernel
theorem dX13_unitOf_30 : decode cX13_unitOf 30 = .ok (.ireturn, 1) := by decide +kernel
theorem dX13_unitOf_31 : decode cX13_unitOf 31 = .ok (.iload_n 0, 1) := by decide +kernel
theorem dX13_unitOf_32 : decode cX13_unitOf 32 = .ok (.invokestatic 363, 3) := by decide +kernel
theorem dX13_unitOf_35 : decode cX13_unitOf 35 = .ok (.ifCond .ne 16, 3) := by decide +kernel
theorem dX13_unitOf_38 : decode cX13_unitOf 38 = .ok (.iload_n 0, 1) := by decide +kernel
theorem dX13_unitOf_39 : decode cX13_unitOf 39 = .ok (.invokestatic 354, 3) := by decide +kernel
theorem dX13_unitOf_42 : decode cX13_unitOf 42 = .ok (.ifCond .ne 9, 3) := by decide +kernel
theorem dX13_unitOf_45 : decode cX13_unitOf 45 = .ok (.iload_n 0, 1) := by decide +kernel
theorem dX13_unitOf_46 : decode cX13_unitOf 46 = .ok (.bipush 21, 2) := by decide +kernel
theorem dX13_unitOf_48 : decode cX13_unitOf 48 = .ok (.if_icmp .ne 7, 3) := by decide +kernel
theorem dX13_unitOf_51 : decode cX13_unitOf 51 = .ok (.iconst 3, 1) := by decide +kernel
theorem dX13_unitOf_52 : decode cX13_unitOf 52 = .ok (.goto 4, 3) := by decide +kernel
theorem dX13_unitOf_55 : decode cX13_unitOf 55 = .ok (.iconst (-1), 1) := by decide +kernel
theorem dX13_unitOf_56 : decode cX13_unitOf 56 = .ok (.ireturn, 1) := by decide +kernel
def pX13_unitOf_b51 (p0 : Int32)  : Int32 := 3
set_option maxRecDepth 10000 in
set_option maxHeartbeats 4000000 in
theorem pX13_unitOf_b51_ok {X : Cx} {G : Gx} {dk : Nat} {g : MT} {r0 : Int32} {h0 : CT} {p0 : Int32} (Z : Zx X G cX13_unitOf RX13 1 dk (some .int) (some (.int r0)) g h0) (hK : 2 ≤ dk)  (hf : pX13_unitOf_b51 p0 = r0) : J X g h0 51 [] [] := by
  unfold pX13_unitOf_b51 at hf
  refine J_iconst Z.1 (v := 3) (by decide) dX13_unitOf_51 ?_
  refine J_goto Z.1 56 dX13_unitOf_52 (by decide) ?_
  cases hf
  exact J_iret Z.1 Z.2.2.2.2.2 dX13_unitOf_56
def pX13_unitOf (p0 : Int32) : Int32 := if (pX13_isMemory p0) = 0 then if p0 = 9 then 1 else if p0 = 10 then 2 else if p0 = 11 then 2 else if (pX13_writesD p0) = 0 then if (pX13_isCompared p0) = 0 then if p0 = 21 then pX13_unitOf_b51 p0   else (-1) else pX13_unitOf_b51 p0   else pX13_unitOf_b51 p0   else 0
set_option maxRecDepth 10000 in
set_option maxHeartbeats 4000000 in
theorem pX13_unitOf_ok (G : Gx) (dk : Nat) (hK : 2 ≤ dk) (g : MT) (h0 : CT) (p0 : Int32) : Ctr G dk yX13_unitOf cX13_unitOf 1 (some .int) [.int p0] g h0 (some (.int (pX13_unitOf p0))) g h0 := by
  obtain ⟨r0, hf⟩ : ∃ z, pX13_unitOf p0 = z := ⟨_, rfl⟩
  rw [hf]
  refine Ctr.ofZ (lv := [(0, .int p0)]) (by decide +kernel) (by simp [cat_i, cat_l, cat_d, cat_rf]) rfl fun X Z => ?_
  unfold pX13_unitOf at hf
  refine J_iload_n Z.1 0 dX13_unitOf_0 rfl rfl ?_
  refine J_callS (as := [.int p0]) (rest := []) (sy := [.int (pX13_isMemory p0)]) Z.1 dX13_unitOf_1 cw_X13_360 (pX13_isMemory_ok G (dk - 1) (by omega) g h0 p0) (zG Z) rfl (by decide) (zF Z (by omega)) (zO Z (by omega) (by decide)) (zM _) Z.2.1 Z.2.1 rfl rfl ?_
  refine J_if_eq Z.1 9 dX13_unitOf_4 (by decide) (fun c1 => ?_) (fun c1 => ?_)
  · rw [if_pos c1] at hf
    refine J_iload_n Z.1 0 dX13_unitOf_9 rfl rfl ?_
    refine J_bipush Z.1 (v := 9) (by decide) dX13_unitOf_10 ?_
    refine J_icmp_ne Z.1 17 dX13_unitOf_12 (by decide) (fun c2 => ?_) (fun c2 => ?_)
    · rw [if_neg c2] at hf
      refine J_iload_n Z.1 0 dX13_unitOf_17 rfl rfl ?_
      refine J_bipush Z.1 (v := 10) (by decide) dX13_unitOf_18 ?_
      refine J_icmp_eq Z.1 29 dX13_unitOf_20 (by decide) (fun c3 => ?_) (fun c3 => ?_)
      · rw [if_pos c3] at hf
        refine J_iconst Z.1 (v := 2) (by decide) dX13_unitOf_29 ?_
        cases hf
        exact J_iret Z.1 Z.2.2.2.2.2 dX13_unitOf_30
      · rw [if_neg c3] at hf
        refine J_iload_n Z.1 0 dX13_unitOf_23 rfl rfl ?_
        refine J_bipush Z.1 (v := 11) (by decide) dX13_unitOf_24 ?_
        refine J_icmp_ne Z.1 31 dX13_unitOf_26 (by decide) (fun c4 => ?_) (fun c4 => ?_)
        · rw [if_neg c4] at hf
          refine J_iload_n Z.1 0 dX13_unitOf_31 rfl rfl ?_
          refine J_callS (as := [.int p0]) (rest := []) (sy := [.int (pX13_writesD p0)]) Z.1 dX13_unitOf_32 cw_X13_363 (pX13_writesD_ok G (dk - 1) (by omega) g h0 p0) (zG Z) rfl (by decide) (zF Z (by omega)) (zO Z (by omega) (by decide)) (zM _) Z.2.1 Z.2.1 rfl rfl ?_
          refine J_if_ne Z.1 51 dX13_unitOf_35 (by decide) (fun c5 => ?_) (fun c5 => ?_)
          · rw [if_neg c5] at hf
            refine J_lv [] rfl ?_
            exact pX13_unitOf_b51_ok Z hK   hf
          · rw [if_pos c5] at hf
            refine J_iload_n Z.1 0 dX13_unitOf_38 rfl rfl ?_
            refine J_callS (as := [.int p0]) (rest := []) (sy := [.int (pX13_isCompared p0)]) Z.1 dX13_unitOf_39 cw_X13_354 (pX13_isCompared_ok G (dk - 1) (by omega) g h0 p0) (zG Z) rfl (by decide) (zF Z (by omega)) (zO Z (by omega) (by decide)) (zM _) Z.2.1 Z.2.1 rfl rfl ?_
            refine J_if_ne Z.1 51 dX13_unitOf_42 (by decide) (fun c6 => ?_) (fun c6 => ?_)
            · rw [if_neg c6] at hf
              refine J_lv [] rfl ?_
              exact pX13_unitOf_b51_ok Z hK   hf
            · rw [if_pos c6] at hf
              refine J_iload_n Z.1 0 dX13_unitOf_45 rfl rfl ?_
              refine J_bipush Z.1 (v := 21) (by decide) dX13_unitOf_46 ?_
              refine J_icmp_ne Z.1 55 dX13_unitOf_48 (by decide) (fun c7 => ?_) (fun c7 => ?_)
              · rw [if_neg c7] at hf
                refine J_iconst Z.1 (v := (-1)) (by decide) dX13_unitOf_55 ?_
                cases hf
                exact J_iret Z.1 Z.2.2.2.2.2 dX13_unitOf_56
              · rw [if_pos c7] at hf
                refine J_lv [] rfl ?_
                exact pX13_unitOf_b51_ok Z hK   hf
        · rw [if_pos c4] at hf
          refine J_iconst Z.1 (v := 2) (by decide) dX13_unitOf_29 ?_
          cases hf
          exact J_iret Z.1 Z.2.2.2.2.2 dX13_unitOf_30
    · rw [if_pos c2] at hf
      refine J_iconst Z.1 (v := 1) (by decide) dX13_unitOf_15 ?_
      cases hf
      exact J_iret Z.1 Z.2.2.2.2.2 dX13_unitOf_16
  · rw [if_neg c1] at hf
    refine J_iconst Z.1 (v := 0) (by decide) dX13_unitOf_7 ?_
    cases hf
    exact J_iret Z.1 Z.2.2.2.2.2 dX13_unitOf_8
theorem dX13_latencyOf_0 : decode cX13_latencyOf 0 = .ok (.iload_n 0, 1) := by decide +kernel
theorem dX13_latencyOf_1 : decode cX13_latencyOf 1 = .ok (.ifCond .ne 7, 3) := by decide +kernel
theorem dX13_latencyOf_4 : decode cX13_latencyOf 4 = .ok (.iconst 5, 1) := by decide +kernel
theorem dX13_latencyOf_5 : decode cX13_latencyOf 5 = .ok (.goto 23, 3) := by decide +kernel
theorem dX13_latencyOf_8 : decode cX13_latencyOf 8 = .ok (.iload_n 0, 1) := by decide +kernel
theorem dX13_latencyOf_9 : decode cX13_latencyOf 9 = .ok (.iconst 1, 1) := by decide +kernel
theorem dX13_latencyOf_10 : decode cX13_latencyOf 10 = .ok (.if_icmp .ne 7, 3) := by decide +kernel
theorem dX13_latencyOf_13 : decode cX13_latencyOf 13 = .ok (.iconst 4, 1) := by decide +kernel
theorem dX13_latencyOf_14 : decode cX13_latencyOf 14 = .ok (.goto 14, 3) := by decide +kernel
theorem dX13_latencyOf_17 : decode cX13_latencyOf 17 = .ok (.iload_n 0, 1) := by decide +kernel
theorem dX13_latencyOf_18 : decode cX13_latencyOf 18 = .ok (.iconst 2, 1) := by decide +kernel
theorem dX13_latencyOf_19 : decode cX13_latencyOf 19 = .ok (.if_icmp .ne 8, 3) := by decide +kernel
theorem dX13_latencyOf_22 : decode cX13_latencyOf 22 = .ok (.bipush 7, 2) := by decide +kernel
theorem dX13_latencyOf_24 : decode cX13_latencyOf 24 = .ok (.goto 4, 3) := by decide +kernel
theorem dX13_latencyOf_27 : decode cX13_latencyOf 27 = .ok (.iconst 3, 1) := by decide +kernel
theorem dX13_latencyOf_28 : decode cX13_latencyOf 28 = .ok (.ireturn, 1) := by decide +kernel
def pX13_latencyOf (p0 : Int32) : Int32 := if p0 = 0 then 5 else if p0 = 1 then 4 else if p0 = 2 then 7 else 3
set_option maxRecDepth 10000 in
set_option maxHeartbeats 4000000 in
theorem pX13_latencyOf_ok (G : Gx) (dk : Nat) (hK : 0 ≤ dk) (g : MT) (h0 : CT) (p0 : Int32) : Ctr G dk yX13_latencyOf cX13_latencyOf 1 (some .int) [.int p0] g h0 (some (.int (pX13_latencyOf p0))) g h0 := by
  obtain ⟨r0, hf⟩ : ∃ z, pX13_latencyOf p0 = z := ⟨_, rfl⟩
  rw [hf]
  refine Ctr.ofZ (lv := [(0, .int p0)]) (by decide +kernel) (by simp [cat_i, cat_l, cat_d, cat_rf]) rfl fun X Z => ?_
  unfold pX13_latencyOf at hf
  refine J_iload_n Z.1 0 dX13_latencyOf_0 rfl rfl ?_
  refine J_if_ne Z.1 8 dX13_latencyOf_1 (by decide) (fun c1 => ?_) (fun c1 => ?_)
  · rw [if_neg c1] at hf
    refine J_iload_n Z.1 0 dX13_latencyOf_8 rfl rfl ?_
    refine J_iconst Z.1 (v := 1) (by decide) dX13_latencyOf_9 ?_
    refine J_icmp_ne Z.1 17 dX13_latencyOf_10 (by decide) (fun c2 => ?_) (fun c2 => ?_)
    · rw [if_neg c2] at hf
      refine J_iload_n Z.1 0 dX13_latencyOf_17 rfl rfl ?_
      refine J_iconst Z.1 (v := 2) (by decide) dX13_latencyOf_18 ?_
      refine J_icmp_ne Z.1 27 dX13_latencyOf_19 (by decide) (fun c3 => ?_) (fun c3 => ?_)
      · rw [if_neg c3] at hf
        refine J_iconst Z.1 (v := 3) (by decide) dX13_latencyOf_27 ?_
        cases hf
        exact J_iret Z.1 Z.2.2.2.2.2 dX13_latencyOf_28
      · rw [if_pos c3] at hf
        refine J_bipush Z.1 (v := 7) (by decide) dX13_latencyOf_22 ?_
        refine J_goto Z.1 28 dX13_latencyOf_24 (by decide) ?_
        cases hf
        exact J_iret Z.1 Z.2.2.2.2.2 dX13_latencyOf_28
    · rw [if_pos c2] at hf
      refine J_iconst Z.1 (v := 4) (by decide) dX13_latencyOf_13 ?_
      refine J_goto Z.1 28 dX13_latencyOf_14 (by decide) ?_
      cases hf
      exact J_iret Z.1 Z.2.2.2.2.2 dX13_latencyOf_28
  · rw [if_pos c1] at hf
    refine J_iconst Z.1 (v := 5) (by decide) dX13_latencyOf_4 ?_
    refine J_goto Z.1 28 dX13_latencyOf_5 (by decide) ?_
    cases hf
    exact J_iret Z.1 Z.2.2.2.2.2 dX13_latencyOf_28
theorem dX13_at_0 : decode cX13_at 0 = .ok (.aload_n 0, 1) := by decide +kernel
theorem dX13_at_1 : decode cX13_at 1 = .ok (.getfield 31, 3) := by decide +kernel
theorem dX13_at_4 : decode cX13_at 4 = .ok (.bipush 6, 2) := by decide +kernel
theorem dX13_at_6 : decode cX13_at 6 = .ok (.bipush 8, 2) := by decide +kernel
theorem dX13_at_8 : decode cX13_at 8 = .ok (.iload_n 1, 1) := by decide +kernel
theorem dX13_at_9 : decode cX13_at 9 = .ok (.imul, 1) := by decide +kernel
theorem dX13_at_10 : decode cX13_at 10 = .ok (.iadd, 1) := by decide +kernel
theorem dX13_at_11 : decode cX13_at 11 = .ok (.iload_n 2, 1) := by decide +kernel
theorem dX13_at_12 : decode cX13_at 12 = .ok (.iadd, 1) := by decide +kernel
theorem dX13_at_13 : decode cX13_at 13 = .ok (.iaload, 1) := by decide +kernel
theorem dX13_at_14 : decode cX13_at 14 = .ok (.ireturn, 1) := by decide +kernel
def pX13_at (g : MT) (h : CT) (this : Nat) (p1 : Int32) (p2 : Int32) : Option Int32 := tg g this 12 (lt (hR h this 19) fun r1 => (nn r1 fun a1 => (tg g a1 20 (ix (gL g a1) ((6 + (8 * p1)) + p2) (some (hI h a1 (Int32.toNatClampNeg ((6 + (8 * p1)) + p2))))))))
set_option maxRecDepth 10000 in
set_option maxHeartbeats 4000000 in
theorem pX13_at_ok (G : Gx) (dk : Nat) (hK : 0 ≤ dk) {g : MT} {h : CT} {this : Nat} {p1 : Int32} {p2 : Int32} {r0 : Int32} (hf : pX13_at g h this p1 p2 = some r0) : Ctr G dk yX13_at cX13_at 3 (some .int) [va_rf (some this), .int p1, .int p2] g h (some (.int r0)) g h := by
  refine Ctr.ofZ (lv := [(0, va_rf (some this)), (1, .int p1), (2, .int p2)]) (by decide +kernel) (by simp [cat_i, cat_l, cat_d, cat_rf]) rfl fun X Z => ?_
  unfold pX13_at at hf
  obtain ⟨t0, hf⟩ := tg_i hf
  refine J_aload_n Z.1 0 dX13_at_0 rfl rfl ?_
  refine J_get (v := va_rf (hR h this 19)) Z.1 dX13_at_1 fl_X13_31 t0 rfl ?_
  refine J_tr (fun r1 er1 => ?_)
  replace hf := lt_i hf r1 er1
  refine J_bipush Z.1 (v := 6) (by decide) dX13_at_4 ?_
  refine J_bipush Z.1 (v := 8) (by decide) dX13_at_6 ?_
  refine J_iload_n Z.1 1 dX13_at_8 rfl rfl ?_
  refine J_imul Z.1 dX13_at_9 ?_
  refine J_iadd Z.1 dX13_at_10 ?_
  refine J_iload_n Z.1 2 dX13_at_11 rfl rfl ?_
  refine J_iadd Z.1 dX13_at_12 ?_
  obtain ⟨a1, rfl, hf⟩ := nn_i hf
  obtain ⟨t2, hf⟩ := tg_i hf
  obtain ⟨i3, hf⟩ := ix_i hf
  refine J_iaload Z.1 dX13_at_13 t2 i3 ?_
  cases hf
  exact J_iret Z.1 Z.2.2.2.2.2 dX13_at_14
theorem dX13_lasts_0 : decode cX13_lasts 0 = .ok (.aload_n 0, 1) := by decide +kernel
theorem dX13_lasts_1 : decode cX13_lasts 1 = .ok (.aload_n 0, 1) := by decide +kernel
theorem dX13_lasts_2 : decode cX13_lasts 2 = .ok (.getfield 366, 3) := by decide +kernel
theorem dX13_lasts_5 : decode cX13_lasts 5 = .ok (.iload_n 1, 1) := by decide +kernel
theorem dX13_lasts_6 : decode cX13_lasts 6 = .ok (.invokestatic 178, 3) := by decide +kernel
theorem dX13_lasts_9 : decode cX13_lasts 9 = .ok (.putfield 366, 3) := by decide +kernel
theorem dX13_lasts_12 : decode cX13_lasts 12 = .ok (.return_, 1) := by decide +kernel
def pX13_lasts (g : MT) (h : CT) (this : Nat) (p1 : Int32) : Option CT := tg g this 12 (lt (sI h this 34 (pJ9_max_7cf53 (hI h this 34) p1)) fun h1 => (some h1))
set_option maxRecDepth 10000 in
set_option maxHeartbeats 4000000 in
theorem pX13_lasts_ok (G : Gx) (dk : Nat) (hK : 1 ≤ dk) {g : MT} {h h0 : CT} {this : Nat} {p1 : Int32} (hf : pX13_lasts g h this p1 = some h0) : Ctr G dk yX13_lasts cX13_lasts 2 none [va_rf (some this), .int p1] g h none g h0 := by
  refine Ctr.ofZ (lv := [(0, va_rf (some this)), (1, .int p1)]) (by decide +kernel) (by simp [cat_i, cat_l, cat_d, cat_rf]) rfl fun X Z => ?_
  unfold pX13_lasts at hf
  obtain ⟨t0, hf⟩ := tg_i hf
  refine J_aload_n Z.1 0 dX13_lasts_0 rfl rfl ?_
  refine J_aload_n Z.1 0 dX13_lasts_1 rfl rfl ?_
  refine J_get (v := .int (hI h this 34)) Z.1 dX13_lasts_2 fl_X13_366 t0 rfl ?_
  refine J_iload_n Z.1 1 dX13_lasts_5 rfl rfl ?_
  refine J_callS (as := [.int (hI h this 34), .int p1]) (rest := [va_rf (some this)]) (sy := [.int (pJ9_max_7cf53 (hI h this 34) p1), va_rf (some this)]) Z.1 dX13_lasts_6 cw_X13_178 (pJ9_max_7cf53_ok G (dk - 1) (by omega) g h (hI h this 34) p1) (zG Z) rfl (by simp [cat_i, cat_l, cat_d, cat_rf]) (zF Z (by omega)) (zO Z (by omega) (by decide)) (zM _) Z.2.1 Z.2.1 rfl rfl ?_
  refine J_putI Z.1 dX13_lasts_9 fl_X13_366 (fun q => by cases q) t0 rfl rfl (congrArg Value.int (hI_s _ _ _ _)) ?_
  refine J_th (fun h1 eh1 => ?_)
  replace hf := lt_i hf h1 eh1
  cases hf
  exact J_vret Z.1 Z.2.2.2.2.2 dX13_lasts_12
theorem dX13_traps_0 : decode cX13_traps 0 = .ok (.aload_n 0, 1) := by decide +kernel
theorem dX13_traps_1 : decode cX13_traps 1 = .ok (.iload_n 1, 1) := by decide +kernel
theorem dX13_traps_2 : decode cX13_traps 2 = .ok (.putfield 369, 3) := by decide +kernel
theorem dX13_traps_5 : decode cX13_traps 5 = .ok (.aload_n 0, 1) := by decide +kernel
theorem dX13_traps_6 : decode cX13_traps 6 = .ok (.iload_n 2, 1) := by decide +kernel
theorem dX13_traps_7 : decode cX13_traps 7 = .ok (.putfield 372, 3) := by decide +kernel
theorem dX13_traps_10 : decode cX13_traps 10 = .ok (.aload_n 0, 1) := by decide +kernel
theorem dX13_traps_11 : decode cX13_traps 11 = .ok (.iload_n 3, 1) := by decide +kernel
theorem dX13_traps_12 : decode cX13_traps 12 = .ok (.putfield 375, 3) := by decide +kernel
theorem dX13_traps_15 : decode cX13_traps 15 = .ok (.aload_n 0, 1) := by decide +kernel
theorem dX13_traps_16 : decode cX13_traps 16 = .ok (.iconst 1, 1) := by decide +kernel
theorem dX13_traps_17 : decode cX13_traps 17 = .ok (.putfield 378, 3) := by decide +kernel
theorem dX13_traps_20 : decode cX13_traps 20 = .ok (.return_, 1) := by decide +kernel
def pX13_traps (g : MT) (h : CT) (this : Nat) (p1 : Int32) (p2 : Int32) (p3 : Int32) : Option CT := tg g this 12 (lt (sI h this 37 p1) fun h1 => (lt (sI h1 this 38 p2) fun h2 => (lt (sI h2 this 39 p3) fun h3 => (lt (sI h3 this 40 1) fun h4 => (some h4)))))
set_option maxRecDepth 10000 in
set_option maxHeartbeats 4000000 in
theorem pX13_traps_ok (G : Gx) (dk : Nat) (hK : 0 ≤ dk) {g : MT} {h h0 : CT} {this : Nat} {p1 : Int32} {p2 : Int32} {p3 : Int32} (hf : pX13_traps g h this p1 p2 p3 = some h0) : Ctr G dk yX13_traps cX13_traps 4 none [va_rf (some this), .int p1, .int p2, .int p3] g h none g h0 := by
  refine Ctr.ofZ (lv := [(0, va_rf (some this)), (1, .int p1), (2, .int p2), (3, .int p3)]) (by decide +kernel) (by simp [cat_i, cat_l, cat_d, cat_rf]) rfl fun X Z => ?_
  unfold pX13_traps at hf
  obtain ⟨t0, hf⟩ := tg_i hf
  refine J_aload_n Z.1 0 dX13_traps_0 rfl rfl ?_
  refine J_iload_n Z.1 1 dX13_traps_1 rfl rfl ?_
  refine J_putI Z.1 dX13_traps_2 fl_X13_369 (fun q => by cases q) t0 rfl rfl (congrArg Value.int (hI_s _ _ _ _)) ?_
  refine J_th (fun h1 eh1 => ?_)
  replace hf := lt_i hf h1 eh1
  refine J_aload_n Z.1 0 dX13_traps_5 rfl rfl ?_
  refine J_iload_n Z.1 2 dX13_traps_6 rfl rfl ?_
  refine J_putI Z.1 dX13_traps_7 fl_X13_372 (fun q => by cases q) t0 rfl rfl (congrArg Value.int (hI_s _ _ _ _)) ?_
  refine J_th (fun h2 eh2 => ?_)
  replace hf := lt_i hf h2 eh2
  refine J_aload_n Z.1 0 dX13_traps_10 rfl rfl ?_
  refine J_iload_n Z.1 3 dX13_traps_11 rfl rfl ?_
  refine J_putI Z.1 dX13_traps_12 fl_X13_375 (fun q => by cases q) t0 rfl rfl (congrArg Value.int (hI_s _ _ _ _)) ?_
  refine J_th (fun h3 eh3 => ?_)
  replace hf := lt_i hf h3 eh3
  refine J_aload_n Z.1 0 dX13_traps_15 rfl rfl ?_
  refine J_iconst Z.1 (v := 1) (by decide) dX13_traps_16 ?_
  refine J_putI Z.1 dX13_traps_17 fl_X13_378 (fun q => by cases q) t0 (z_n (Or.inr rfl)) (z_f (Or.inr rfl)) (congrArg Value.int (hI_s _ _ _ _)) ?_
  refine J_th (fun h4 eh4 => ?_)
  replace hf := lt_i hf h4 eh4
  cases hf
  exact J_vret Z.1 Z.2.2.2.2.2 dX13_traps_20
theorem dX13_misses_0 : decode cX13_misses 0 = .ok (.aload_n 0, 1) := by decide +kernel
theorem dX13_misses_1 : decode cX13_misses 1 = .ok (.getfield 31, 3) := by decide +kernel
theorem dX13_misses_4 : decode cX13_misses 4 = .ok (.iconst 4, 1) := by decide +kernel
theorem dX13_misses_5 : decode cX13_misses 5 = .ok (.iaload, 1) := by decide +kernel
theorem dX13_misses_6 : decode cX13_misses 6 = .ok (.iload_n 1, 1) := by decide +kernel
theorem dX13_misses_7 : decode cX13_misses 7 = .ok (.invokestatic 287, 3) := by decide +kernel
theorem dX13_misses_10 : decode cX13_misses 10 = .ok (.ifCond .ne 7, 3) := by decide +kernel
theorem dX13_misses_13 : decode cX13_misses 13 = .ok (.iconst 1, 1) := by decide +kernel
theorem dX13_misses_14 : decode cX13_misses 14 = .ok (.goto 4, 3) := by decide +kernel
theorem dX13_misses_17 : decode cX13_misses 17 = .ok (.iconst 0, 1) := by decide +kernel
theorem dX13_misses_18 : decode cX13_misses 18 = .ok (.ireturn, 1) := by decide +kernel
def pX13_misses (g : MT) (h : CT) (this : Nat) (p1 : Int32) : Option Int32 := tg g this 12 (lt (hR h this 19) fun r1 => (nn r1 fun a1 => (tg g a1 20 (ix (gL g a1) 4 (if (pX13_has (hI h a1 (Int32.toNatClampNeg 4)) p1) = 0 then some 1 else some 0)))))
set_option maxRecDepth 10000 in
set_option maxHeartbeats 4000000 in
theorem pX13_misses_ok (G : Gx) (dk : Nat) (hK : 1 ≤ dk) {g : MT} {h : CT} {this : Nat} {p1 : Int32} {r0 : Int32} (hf : pX13_misses g h this p1 = some r0) : Ctr G dk yX13_misses cX13_misses 2 (some .boolean) [va_rf (some this), .int p1] g h (some (.int r0)) g h := by
  refine Ctr.ofZ (lv := [(0, va_rf (some this)), (1, .int p1)]) (by decide +kernel) (by simp [cat_i, cat_l, cat_d, cat_rf]) rfl fun X Z => ?_
  unfold pX13_misses at hf
  obtain ⟨t0, hf⟩ := tg_i hf
  refine J_aload_n Z.1 0 dX13_misses_0 rfl rfl ?_
  refine J_get (v := va_rf (hR h this 19)) Z.1 dX13_misses_1 fl_X13_31 t0 rfl ?_
  refine J_tr (fun r1 er1 => ?_)
  replace hf := lt_i hf r1 er1
  refine J_iconst Z.1 (v := 4) (by decide) dX13_misses_4 ?_
  obtain ⟨a1, rfl, hf⟩ := nn_i hf
  obtain ⟨t2, hf⟩ := tg_i hf
  obtain ⟨i3, hf⟩ := ix_i hf
  refine J_iaload Z.1 dX13_misses_5 t2 i3 ?_
  refine J_iload_n Z.1 1 dX13_misses_6 rfl rfl ?_
  refine J_callS (as := [.int (hI h a1 (Int32.toNatClampNeg 4)), .int p1]) (rest := []) (sy := [.int (pX13_has (hI h a1 (Int32.toNatClampNeg 4)) p1)]) Z.1 dX13_misses_7 cw_X13_287 (pX13_has_ok G (dk - 1) (by omega) g h (hI h a1 (Int32.toNatClampNeg 4)) p1) (zG Z) rfl (by decide) (zF Z (by omega)) (zO Z (by omega) (by decide)) (zM _) Z.2.1 Z.2.1 rfl rfl ?_
  refine J_if_ne Z.1 17 dX13_misses_10 (by decide) (fun c4 => ?_) (fun c4 => ?_)
  · rw [if_neg c4] at hf
    refine J_iconst Z.1 (v := 0) (by decide) dX13_misses_17 ?_
    cases hf
    exact J_zret Z.1 Z.2.2.2.2.2 (z_n (Or.inl rfl)) dX13_misses_18
  · rw [if_pos c4] at hf
    refine J_iconst Z.1 (v := 1) (by decide) dX13_misses_13 ?_
    refine J_goto Z.1 18 dX13_misses_14 (by decide) ?_
    cases hf
    exact J_zret Z.1 Z.2.2.2.2.2 (z_n (Or.inr rfl)) dX13_misses_18
theorem dX13_missesRow_0 : decode cX13_missesRow 0 = .ok (.aload_n 0, 1) := by decide +kernel
theorem dX13_missesRow_1 : decode cX13_missesRow 1 = .ok (.iload_n 1, 1) := by decide +kernel
theorem dX13_missesRow_2 : decode cX13_missesRow 2 = .ok (.iconst 0, 1) := by decide +kernel
theorem dX13_missesRow_3 : decode cX13_missesRow 3 = .ok (.invokevirtual 381, 3) := by decide +kernel
theorem dX13_missesRow_6 : decode cX13_missesRow 6 = .ok (.istore_n 2, 1) := by decide +kernel
theorem dX13_missesRow_7 : decode cX13_missesRow 7 = .ok (.iload_n 2, 1) := by decide +kernel
theorem dX13_missesRow_8 : decode cX13_missesRow 8 = .ok (.invokestatic 383, 3) := by decide +kernel
theorem dX13_missesRow_11 : decode cX13_missesRow 11 = .ok (.ifCond .eq 16, 3) := by decide +kernel
theorem dX13_missesRow_14 : decode cX13_missesRow 14 = .ok (.aload_n 0, 1) := by decide +kernel
theorem dX13_missesRow_15 : decode cX13_missesRow 15 = .ok (.aload_n 0, 1) := by decide +kernel
theorem dX13_missesRow_16 : decode cX13_missesRow 16 = .ok (.iload_n 1, 1) := by decide +kernel
theorem dX13_missesRow_17 : decode cX13_missesRow 17 = .ok (.iconst 2, 1) := by decide +kernel
theorem dX13_missesRow_18 : decode cX13_missesRow 18 = .ok (.invokevirtual 381, 3) := by decide +kernel
theorem dX13_missesRow_21 : decode cX13_missesRow 21 = .ok (.invokevirtual 386, 3) := by decide +kernel
theorem dX13_missesRow_24 : decode cX13_missesRow 24 = .ok (.ifCond .ne 43, 3) := by decide +kernel
theorem dX13_missesRow_27 : decode cX13_missesRow 27 = .ok (.iload_n 2, 1) := by decide +kernel
theorem dX13_missesRow_28 : decode cX13_missesRow 28 = .ok (.invokestatic 389, 3) := by decide +kernel
theorem dX13_missesRow_31 : decode cX13_missesRow 31 = .ok (.ifCond .eq 16, 3) := by decide +kernel
theorem dX13_missesRow_34 : decode cX13_missesRow 34 = .ok (.aload_n 0, 1) := by decide +kernel
theorem dX13_missesRow_35 : decode cX13_missesRow 35 = .ok (.aload_n 0, 1) := by decide +kernel
theorem dX13_missesRow_36 : decode cX13_missesRow 36 = .ok (.iload_n 1, 1) := by decide +kernel
theorem dX13_missesRow_37 : decode cX13_missesRow 37 = .ok (.iconst 3, 1) := by decide +kernel
theorem dX13_missesRow_38 : decode cX13_missesRow 38 = .ok (.invokevirtual 381, 3) := by decide +kernel
theorem dX13_missesRow_41 : decode cX13_missesRow 41 = .ok (.invokevirtual 386, 3) := by decide +kernel
theorem dX13_missesRow_44 : decode cX13_missesRow 44 = .ok (.ifCond .ne 23, 3) := by decide +kernel
theorem dX13_missesRow_47 : decode cX13_missesRow 47 = .ok (.iload_n 2, 1) := by decide +kernel
theorem dX13_missesRow_48 : decode cX13_missesRow 48 = .ok (.invokestatic 392, 3) := by decide +kernel
theorem dX13_missesRow_51 : decode cX13_missesRow 51 = .ok (.ifCond .eq 20, 3) := by decide +kernel
theorem dX13_missesRow_54 : decode cX13_missesRow 54 = .ok (.aload_n 0, 1) := by decide +kernel
theorem dX13_missesRow_55 : decode cX13_missesRow 55 = .ok (.aload_n 0, 1) := by decide +kernel
theorem dX13_missesRow_56 : decode cX13_missesRow 56 = .ok (.iload_n 1, 1) := by decide +kernel
theorem dX13_missesRow_57 : decode cX13_missesRow 57 = .ok (.iconst 1, 1) := by decide +kernel
theorem dX13_missesRow_58 : decode cX13_missesRow 58 = .ok (.invokevirtual 381, 3) := by decide +kernel
theorem dX13_missesRow_61 : decode cX13_missesRow 61 = .ok (.invokevirtual 386, 3) := by decide +kernel
theorem dX13_missesRow_64 : decode cX13_missesRow 64 = .ok (.ifCond .eq 7, 3) := by decide +kernel
theorem dX13_missesRow_67 : decode cX13_missesRow 67 = .ok (.iconst 1, 1) := by decide +kernel
theorem dX13_missesRow_68 : decode cX13_missesRow 68 = .ok (.goto 4, 3) := by decide +kernel
theorem dX13_missesRow_71 : decode cX13_missesRow 71 = .ok (.iconst 0, 1) := by decide +kernel
theorem dX13_missesRow_72 : decode cX13_missesRow 72 = .ok (.ireturn, 1) := by decide +kernel
def pX13_missesRow_b67 (g : MT) (h : CT) (this : Nat) (p1 : Int32)  : Option Int32 := some 1
set_option maxRecDepth 10000 in
set_option maxHeartbeats 4000000 in
theorem pX13_missesRow_b67_ok {X : Cx} {G : Gx} {dk : Nat} {g : MT} {r0 : Int32} {h : CT} {this : Nat} {p1 : Int32} (Z : Zx X G cX13_missesRow RX13 3 dk (some .boolean) (some (.int r0)) g h) (hK : 2 ≤ dk) (t0 : gT g this = 12)  (hf : pX13_missesRow_b67 g h this p1 = some r0) : J X g h 67 [] [] := by
  unfold pX13_missesRow_b67 at hf
  refine J_iconst Z.1 (v := 1) (by decide) dX13_missesRow_67 ?_
  refine J_goto Z.1 72 dX13_missesRow_68 (by decide) ?_
  cases hf
  exact J_zret Z.1 Z.2.2.2.2.2 (z_n (Or.inr rfl)) dX13_missesRow_72
def pX13_missesRow_b47 (g : MT) (h : CT) (this : Nat) (p1 : Int32) (l2 : Int32) : Option Int32 := if (pX13_readsD l2) = 0 then some 0 else bd (pX13_at g h this p1 1) fun x2 => (bd (pX13_misses g h this x2) fun x4 => (if x4 = 0 then some 0 else pX13_missesRow_b67 g h this p1  ))
set_option maxRecDepth 10000 in
set_option maxHeartbeats 4000000 in
theorem pX13_missesRow_b47_ok {X : Cx} {G : Gx} {dk : Nat} {g : MT} {r0 : Int32} {h : CT} {this : Nat} {p1 : Int32} (Z : Zx X G cX13_missesRow RX13 3 dk (some .boolean) (some (.int r0)) g h) (hK : 2 ≤ dk) (t0 : gT g this = 12) (l2 : Int32) (hf : pX13_missesRow_b47 g h this p1 l2 = some r0) : J X g h 47 [(0, va_rf (some this)), (1, .int p1), (2, .int l2)] [] := by
  unfold pX13_missesRow_b47 at hf
  refine J_iload_n Z.1 2 dX13_missesRow_47 rfl rfl ?_
  refine J_callS (as := [.int l2]) (rest := []) (sy := [.int (pX13_readsD l2)]) Z.1 dX13_missesRow_48 cw_X13_392 (pX13_readsD_ok G (dk - 1) (by omega) g h l2) (zG Z) rfl (by decide) (zF Z (by omega)) (zO Z (by omega) (by decide)) (zM _) Z.2.1 Z.2.1 rfl rfl ?_
  refine J_if_eq Z.1 71 dX13_missesRow_51 (by decide) (fun c1 => ?_) (fun c1 => ?_)
  · rw [if_pos c1] at hf
    refine J_iconst Z.1 (v := 0) (by decide) dX13_missesRow_71 ?_
    cases hf
    exact J_zret Z.1 Z.2.2.2.2.2 (z_n (Or.inl rfl)) dX13_missesRow_72
  · rw [if_neg c1] at hf
    refine J_aload_n Z.1 0 dX13_missesRow_54 rfl rfl ?_
    refine J_aload_n Z.1 0 dX13_missesRow_55 rfl rfl ?_
    refine J_iload_n Z.1 1 dX13_missesRow_56 rfl rfl ?_
    refine J_iconst Z.1 (v := 1) (by decide) dX13_missesRow_57 ?_
    obtain ⟨x2, q3, hf⟩ := bd_i hf
    refine J_callV (ci := 11) (as := [.int p1, .int 1]) (rest := [va_rf (some this)]) (sy := [.int x2, va_rf (some this)]) Z.1 dX13_missesRow_58 cw_X13_381 (pX13_at_ok G (dk - 1) (by omega) q3) rfl rfl t0 (zG Z) rfl (by simp [cat_i, cat_l, cat_d, cat_rf]) (zF Z (by omega)) (zO Z (by omega) (by decide)) (zM _) Z.2.1 Z.2.1 rfl rfl ?_
    obtain ⟨x4, q5, hf⟩ := bd_i hf
    refine J_callV (ci := 11) (as := [.int x2]) (rest := []) (sy := [.int x4]) Z.1 dX13_missesRow_61 cw_X13_386 (pX13_misses_ok G (dk - 1) (by omega) q5) rfl rfl t0 (zG Z) rfl (by decide) (zF Z (by omega)) (zO Z (by omega) (by decide)) (zM _) Z.2.1 Z.2.1 rfl rfl ?_
    refine J_if_eq Z.1 71 dX13_missesRow_64 (by decide) (fun c6 => ?_) (fun c6 => ?_)
    · rw [if_pos c6] at hf
      refine J_iconst Z.1 (v := 0) (by decide) dX13_missesRow_71 ?_
      cases hf
      exact J_zret Z.1 Z.2.2.2.2.2 (z_n (Or.inl rfl)) dX13_missesRow_72
    · rw [if_neg c6] at hf
      refine J_lv [] rfl ?_
      exact pX13_missesRow_b67_ok Z hK t0   hf
def pX13_missesRow_b27 (g : MT) (h : CT) (this : Nat) (p1 : Int32) (l2 : Int32) : Option Int32 := if (pX13_readsB l2) = 0 then pX13_missesRow_b47 g h this p1  l2 else bd (pX13_at g h this p1 3) fun x2 => (bd (pX13_misses g h this x2) fun x4 => (if x4 = 0 then pX13_missesRow_b47 g h this p1  l2 else pX13_missesRow_b67 g h this p1  ))
set_option maxRecDepth 10000 in
set_option maxHeartbeats 4000000 in
theorem pX13_missesRow_b27_ok {X : Cx} {G : Gx} {dk : Nat} {g : MT} {r0 : Int32} {h : CT} {this : Nat} {p1 : Int32} (Z : Zx X G cX13_missesRow RX13 3 dk (some .boolean) (some (.int r0)) g h) (hK : 2 ≤ dk) (t0 : gT g this = 12) (l2 : Int32) (hf : pX13_missesRow_b27 g h this p1 l2 = some r0) : J X g h 27 [(0, va_rf (some this)), (1, .int p1), (2, .int l2)] [] := by
  unfold pX13_missesRow_b27 at hf
  refine J_iload_n Z.1 2 dX13_missesRow_27 rfl rfl ?_
  refine J_callS (as := [.int l2]) (rest := []) (sy := [.int (pX13_readsB l2)]) Z.1 dX13_missesRow_28 cw_X13_389 (pX13_readsB_ok G (dk - 1) (by omega) g h l2) (zG Z) rfl (by decide) (zF Z (by omega)) (zO Z (by omega) (by decide)) (zM _) Z.2.1 Z.2.1 rfl rfl ?_
  refine J_if_eq Z.1 47 dX13_missesRow_31 (by decide) (fun c1 => ?_) (fun c1 => ?_)
  · rw [if_pos c1] at hf
    exact pX13_missesRow_b47_ok Z hK t0  _ hf
  · rw [if_neg c1] at hf
    refine J_aload_n Z.1 0 dX13_missesRow_34 rfl rfl ?_
    refine J_aload_n Z.1 0 dX13_missesRow_35 rfl rfl ?_
    refine J_iload_n Z.1 1 dX13_missesRow_36 rfl rfl ?_
    refine J_iconst Z.1 (v := 3) (by decide) dX13_missesRow_37 ?_
    obtain ⟨x2, q3, hf⟩ := bd_i hf
    refine J_callV (ci := 11) (as := [.int p1, .int 3]) (rest := [va_rf (some this)]) (sy := [.int x2, va_rf (some this)]) Z.1 dX13_missesRow_38 cw_X13_381 (pX13_at_ok G (dk - 1) (by omega) q3) rfl rfl t0 (zG Z) rfl (by simp [cat_i, cat_l, cat_d, cat_rf]) (zF Z (by omega)) (zO Z (by omega) (by decide)) (zM _) Z.2.1 Z.2.1 rfl rfl ?_
    obtain ⟨x4, q5, hf⟩ := bd_i hf
    refine J_callV (ci := 11) (as := [.int x2]) (rest := []) (sy := [.int x4]) Z.1 dX13_missesRow_41 cw_X13_386 (pX13_misses_ok G (dk - 1) (by omega) q5) rfl rfl t0 (zG Z) rfl (by decide) (zF Z (by omega)) (zO Z (by omega) (by decide)) (zM _) Z.2.1 Z.2.1 rfl rfl ?_
    refine J_if_ne Z.1 67 dX13_missesRow_44 (by decide) (fun c6 => ?_) (fun c6 => ?_)
    · rw [if_neg c6] at hf
      refine J_lv [] rfl ?_
      exact pX13_missesRow_b67_ok Z hK t0   hf
    · rw [if_pos c6] at hf
      exact pX13_missesRow_b47_ok Z hK t0  _ hf
def pX13_missesRow (g : MT) (h : CT) (this : Nat) (p1 : Int32) : Option Int32 := tg g this 12 (bd (pX13_at g h this p1 0) fun x1 => (if (pX13_readsA x1) = 0 then pX13_missesRow_b27 g h this p1  x1 else bd (pX13_at g h this p1 2) fun x4 => (bd (pX13_misses g h this x4) fun x6 => (if x6 = 0 then pX13_missesRow_b27 g h this p1  x1 else pX13_missesRow_b67 g h this p1  ))))
set_option maxRecDepth 10000 in
set_option maxHeartbeats 4000000 in
theorem pX13_missesRow_ok (G : Gx) (dk : Nat) (hK : 2 ≤ dk) {g : MT} {h : CT} {this : Nat} {p1 : Int32} {r0 : Int32} (hf : pX13_missesRow g h this p1 = some r0) : Ctr G dk yX13_missesRow cX13_missesRow 3 (some .boolean) [va_rf (some this), .int p1] g h (some (.int r0)) g h := by
  refine Ctr.ofZ (lv := [(0, va_rf (some this)), (1, .int p1)]) (by decide +kernel) (by simp [cat_i, cat_l, cat_d, cat_rf]) rfl fun X Z => ?_
  unfold pX13_missesRow at hf
  obtain ⟨t0, hf⟩ := tg_i hf
  refine J_aload_n Z.1 0 dX13_missesRow_0 rfl rfl ?_
  refine J_iload_n Z.1 1 dX13_missesRow_1 rfl rfl ?_
  refine J_iconst Z.1 (v := 0) (by decide) dX13_missesRow_2 ?_
  obtain ⟨x1, q2, hf⟩ := bd_i hf
  refine J_callV (ci := 11) (as := [.int p1, .int 0]) (rest := []) (sy := [.int x1]) Z.1 dX13_missesRow_3 cw_X13_381 (pX13_at_ok G (dk - 1) (by omega) q2) rfl rfl t0 (zG Z) rfl (by decide) (zF Z (by omega)) (zO Z (by omega) (by decide)) (zM _) Z.2.1 Z.2.1 rfl rfl ?_
  refine J_istore_n Z.1 (lv2 := [(2, .int x1), (0, va_rf (some this)), (1, .int p1)]) dX13_missesRow_6 rfl (zL Z (by decide)) rfl ?_
  refine J_iload_n Z.1 0 dX13_missesRow_7 rfl rfl ?_
  refine J_callS (as := [.int x1]) (rest := []) (sy := [.int (pX13_readsA x1)]) Z.1 dX13_missesRow_8 cw_X13_383 (pX13_readsA_ok G (dk - 1) (by omega) g h x1) (zG Z) rfl (by decide) (zF Z (by omega)) (zO Z (by omega) (by decide)) (zM _) Z.2.1 Z.2.1 rfl rfl ?_
  refine J_if_eq Z.1 27 dX13_missesRow_11 (by decide) (fun c3 => ?_) (fun c3 => ?_)
  · rw [if_pos c3] at hf
    refine J_lv [1, 2, 0] rfl ?_
    exact pX13_missesRow_b27_ok Z hK t0  _ hf
  · rw [if_neg c3] at hf
    refine J_aload_n Z.1 1 dX13_missesRow_14 rfl rfl ?_
    refine J_aload_n Z.1 1 dX13_missesRow_15 rfl rfl ?_
    refine J_iload_n Z.1 2 dX13_missesRow_16 rfl rfl ?_
    refine J_iconst Z.1 (v := 2) (by decide) dX13_missesRow_17 ?_
    obtain ⟨x4, q5, hf⟩ := bd_i hf
    refine J_callV (ci := 11) (as := [.int p1, .int 2]) (rest := [va_rf (some this)]) (sy := [.int x4, va_rf (some this)]) Z.1 dX13_missesRow_18 cw_X13_381 (pX13_at_ok G (dk - 1) (by omega) q5) rfl rfl t0 (zG Z) rfl (by simp [cat_i, cat_l, cat_d, cat_rf]) (zF Z (by omega)) (zO Z (by omega) (by decide)) (zM _) Z.2.1 Z.2.1 rfl rfl ?_
    obtain ⟨x6, q7, hf⟩ := bd_i hf
    refine J_callV (ci := 11) (as := [.int x4]) (rest := []) (sy := [.int x6]) Z.1 dX13_missesRow_21 cw_X13_386 (pX13_misses_ok G (dk - 1) (by omega) q7) rfl rfl t0 (zG Z) rfl (by decide) (zF Z (by omega)) (zO Z (by omega) (by decide)) (zM _) Z.2.1 Z.2.1 rfl rfl ?_
    refine J_if_ne Z.1 67 dX13_missesRow_24 (by decide) (fun c8 => ?_) (fun c8 => ?_)
    · rw [if_neg c8] at hf
      refine J_lv [] rfl ?_
      exact pX13_missesRow_b67_ok Z hK t0   hf
    · rw [if_pos c8] at hf
      refine J_lv [1, 2, 0] rfl ?_
      exact pX13_missesRow_b27_ok Z hK t0  _ hf
theorem dX13_rowTime_0 : decode cX13_rowTime 0 = .ok (.iconst 0, 1) := by decide +kernel
theorem dX13_rowTime_1 : decode cX13_rowTime 1 = .ok (.istore_n 3, 1) := by decide +kernel
theorem dX13_rowTime_2 : decode cX13_rowTime 2 = .ok (.iconst 0, 1) := by decide +kernel
theorem dX13_rowTime_3 : decode cX13_rowTime 3 = .ok (.istore 4, 2) := by decide +kernel
theorem dX13_rowTime_5 : decode cX13_rowTime 5 = .ok (.iload 4, 2) := by decide +kernel
theorem dX13_rowTime_7 : decode cX13_rowTime 7 = .ok (.aload_n 0, 1) := by decide +kernel
theorem dX13_rowTime_8 : decode cX13_rowTime 8 = .ok (.getfield 31, 3) := by decide +kernel
theorem dX13_rowTime_11 : decode cX13_rowTime 11 = .ok (.iconst 0, 1) := by decide +kernel
theorem dX13_rowTime_12 : decode cX13_rowTime 12 = .ok (.iaload, 1) := by decide +kernel
theorem dX13_rowTime_13 : decode cX13_rowTime 13 = .ok (.if_icmp .ge 23, 3) := by decide +kernel
theorem dX13_rowTime_16 : decode cX13_rowTime 16 = .ok (.iload_n 3, 1) := by decide +kernel
theorem dX13_rowTime_17 : decode cX13_rowTime 17 = .ok (.aload_n 1, 1) := by decide +kernel
theorem dX13_rowTime_18 : decode cX13_rowTime 18 = .ok (.bipush 16, 2) := by decide +kernel
theorem dX13_rowTime_20 : decode cX13_rowTime 20 = .ok (.iload_n 2, 1) := by decide +kernel
theorem dX13_rowTime_21 : decode cX13_rowTime 21 = .ok (.imul, 1) := by decide +kernel
theorem dX13_rowTime_22 : decode cX13_rowTime 22 = .ok (.iload 4, 2) := by decide +kernel
theorem dX13_rowTime_24 : decode cX13_rowTime 24 = .ok (.iadd, 1) := by decide +kernel
theorem dX13_rowTime_25 : decode cX13_rowTime 25 = .ok (.iaload, 1) := by decide +kernel
theorem dX13_rowTime_26 : decode cX13_rowTime 26 = .ok (.invokestatic 178, 3) := by decide +kernel
theorem dX13_rowTime_29 : decode cX13_rowTime 29 = .ok (.istore_n 3, 1) := by decide +kernel
theorem dX13_rowTime_30 : decode cX13_rowTime 30 = .ok (.iinc 4 1, 3) := by decide +kernel
theorem dX13_rowTime_33 : decode cX13_rowTime 33 = .ok (.goto (-28), 3) := by decide +kernel
theorem dX13_rowTime_36 : decode cX13_rowTime 36 = .ok (.iload_n 3, 1) := by decide +kernel
theorem dX13_rowTime_37 : decode cX13_rowTime 37 = .ok (.ireturn, 1) := by decide +kernel
def pX13_rowTime_b5 (g : MT) (h : CT) (this : Nat) (p1 : Nat) (p2 : Int32) (k5 : Int32 → Int32 → Option Int32) (l3 : Int32) (l4 : Int32) : Option Int32 := lt (hR h this 19) fun r1 => (nn r1 fun a1 => (tg g a1 20 (ix (gL g a1) 0 (if (hI h a1 (Int32.toNatClampNeg 0)) ≤ l4 then some l3 else tg g p1 20 (ix (gL g p1) ((16 * p2) + l4) (lt (pJ9_max_7cf53 l3 (hI h p1 (Int32.toNatClampNeg ((16 * p2) + l4)))) fun x7 => (lt (l4 + 1) fun x8 => (k5 x7 x8))))))))
set_option maxRecDepth 10000 in
set_option maxHeartbeats 4000000 in
theorem pX13_rowTime_b5_ok {X : Cx} {G : Gx} {dk : Nat} {g : MT} {r0 : Int32} {h : CT} {this : Nat} {p1 : Nat} {p2 : Int32} {k5 : Int32 → Int32 → Option Int32} (Z : Zx X G cX13_rowTime RX13 5 dk (some .int) (some (.int r0)) g h) (hK : 1 ≤ dk) (t0 : gT g this = 12) (hk5 : ∀ (l3 : Int32) (l4 : Int32), k5 l3 l4 = some r0 → J X g h 5 [(0, va_rf (some this)), (1, va_rf (some p1)), (2, .int p2), (3, .int l3), (4, .int l4)] []) (l3 : Int32) (l4 : Int32) (hf : pX13_rowTime_b5 g h this p1 p2 k5 l3 l4 = some r0) : J X g h 5 [(0, va_rf (some this)), (1, va_rf (some p1)), (2, .int p2), (3, .int l3), (4, .int l4)] [] := by
  unfold pX13_rowTime_b5 at hf
  refine J_iload Z.1 4 dX13_rowTime_5 rfl ?_
  refine J_aload_n Z.1 0 dX13_rowTime_7 rfl rfl ?_
  refine J_get (v := va_rf (hR h this 19)) Z.1 dX13_rowTime_8 fl_X13_31 t0 rfl ?_
  refine J_tr (fun r1 er1 => ?_)
  replace hf := lt_i hf r1 er1
  refine J_iconst Z.1 (v := 0) (by decide) dX13_rowTime_11 ?_
  obtain ⟨a1, rfl, hf⟩ := nn_i hf
  obtain ⟨t2, hf⟩ := tg_i hf
  obtain ⟨i3, hf⟩ := ix_i hf
  refine J_iaload Z.1 dX13_rowTime_12 t2 i3 ?_
  refine J_icmp_ge Z.1 36 dX13_rowTime_13 (by decide) (fun c4 => ?_) (fun c4 => ?_)
  · rw [if_pos c4] at hf
    refine J_iload_n Z.1 3 dX13_rowTime_36 rfl rfl ?_
    cases hf
    exact J_iret Z.1 Z.2.2.2.2.2 dX13_rowTime_37
  · rw [if_neg c4] at hf
    refine J_iload_n Z.1 3 dX13_rowTime_16 rfl rfl ?_
    refine J_aload_n Z.1 1 dX13_rowTime_17 rfl rfl ?_
    refine J_bipush Z.1 (v := 16) (by decide) dX13_rowTime_18 ?_
    refine J_iload_n Z.1 2 dX13_rowTime_20 rfl rfl ?_
    refine J_imul Z.1 dX13_rowTime_21 ?_
    refine J_iload Z.1 4 dX13_rowTime_22 rfl ?_
    refine J_iadd Z.1 dX13_rowTime_24 ?_
    obtain ⟨t5, hf⟩ := tg_i hf
    obtain ⟨i6, hf⟩ := ix_i hf
    refine J_iaload Z.1 dX13_rowTime_25 t5 i6 ?_
    refine J_callS (as := [.int l3, .int (hI h p1 (Int32.toNatClampNeg ((16 * p2) + l4)))]) (rest := []) (sy := [.int (pJ9_max_7cf53 l3 (hI h p1 (Int32.toNatClampNeg ((16 * p2) + l4))))]) Z.1 dX13_rowTime_26 cw_X13_178 (pJ9_max_7cf53_ok G (dk - 1) (by omega) g h l3 (hI h p1 (Int32.toNatClampNeg ((16 * p2) + l4)))) (zG Z) rfl (by decide) (zF Z (by omega)) (zO Z (by omega) (by decide)) (zM _) Z.2.1 Z.2.1 rfl rfl ?_
    refine J_ti (fun x7 ex7 => ?_)
    replace hf := lt_i hf x7 ex7
    refine J_istore_n Z.1 (lv2 := [(3, .int x7), (0, va_rf (some this)), (1, va_rf (some p1)), (2, .int p2), (4, .int l4)]) dX13_rowTime_29 rfl (zL Z (by decide)) rfl ?_
    refine J_iinc Z.1 (v := 1) (lv2 := [(4, .int (l4 + 1)), (3, .int x7), (0, va_rf (some this)), (1, va_rf (some p1)), (2, .int p2)]) 4 dX13_rowTime_30 rfl (by decide) (zL Z (by decide)) rfl ?_
    obtain ⟨x8, ex8⟩ : ∃ z, z = (l4 + 1) := ⟨_, rfl⟩
    replace hf := lt_i hf x8 ex8
    rw [← ex8]
    refine J_goto Z.1 5 dX13_rowTime_33 (by decide) ?_
    refine J_lv [2, 3, 4, 1, 0] rfl ?_
    exact hk5 _ _ hf
def pX13_rowTime_l5 (g : MT) (h : CT) (this : Nat) (p1 : Nat) (p2 : Int32) : Nat → Int32 → Int32 → Option Int32
  | 0, _, _ => none
  | n + 1, l3, l4 => pX13_rowTime_b5 g h this p1 p2 (pX13_rowTime_l5 g h this p1 p2 n) l3 l4
theorem pX13_rowTime_l5_ok {X : Cx} {G : Gx} {dk : Nat} {g : MT} {r0 : Int32} {h : CT} {this : Nat} {p1 : Nat} {p2 : Int32} (Z : Zx X G cX13_rowTime RX13 5 dk (some .int) (some (.int r0)) g h) (hK : 1 ≤ dk) (t0 : gT g this = 12) : ∀ (n : Nat) (l3 : Int32) (l4 : Int32), pX13_rowTime_l5 g h this p1 p2 n l3 l4 = some r0 → J X g h 5 [(0, va_rf (some this)), (1, va_rf (some p1)), (2, .int p2), (3, .int l3), (4, .int l4)] [] := by
  intro n
  induction n with
  | zero => intro l3 l4 hf; cases hf
  | succ n ih => intro l3 l4 hf; exact pX13_rowTime_b5_ok Z hK t0 ih l3 l4 hf
def pX13_rowTime (g : MT) (h : CT) (this : Nat) (p1 : Nat) (p2 : Int32) : Option Int32 := tg g this 12 (pX13_rowTime_l5 g h this p1 p2  FUEL 0 0)
set_option maxRecDepth 10000 in
set_option maxHeartbeats 4000000 in
theorem pX13_rowTime_ok (G : Gx) (dk : Nat) (hK : 1 ≤ dk) {g : MT} {h : CT} {this : Nat} {p1 : Nat} {p2 : Int32} {r0 : Int32} (hf : pX13_rowTime g h this p1 p2 = some r0) : Ctr G dk yX13_rowTime cX13_rowTime 5 (some .int) [va_rf (some this), va_rf (some p1), .int p2] g h (some (.int r0)) g h := by
  refine Ctr.ofZ (lv := [(0, va_rf (some this)), (1, va_rf (some p1)), (2, .int p2)]) (by decide +kernel) (by simp [cat_i, cat_l, cat_d, cat_rf]) rfl fun X Z => ?_
  unfold pX13_rowTime at hf
  obtain ⟨t0, hf⟩ := tg_i hf
  refine J_iconst Z.1 (v := 0) (by decide) dX13_rowTime_0 ?_
  refine J_istore_n Z.1 (lv2 := [(3, .int 0), (0, va_rf (some this)), (1, va_rf (some p1)), (2, .int p2)]) dX13_rowTime_1 rfl (zL Z (by decide)) rfl ?_
  refine J_iconst Z.1 (v := 0) (by decide) dX13_rowTime_2 ?_
  refine J_istore Z.1 (lv2 := [(4, .int 0), (3, .int 0), (0, va_rf (some this)), (1, va_rf (some p1)), (2, .int p2)]) dX13_rowTime_3 (zL Z (by decide)) rfl ?_
  refine J_lv [2, 3, 4, 1, 0] rfl ?_
  exact pX13_rowTime_l5_ok Z hK t0  FUEL _ _ hf
theorem dX13_beginning_0 : decode cX13_beginning 0 = .ok (.aload_n 0, 1) := by decide +kernel
theorem dX13_beginning_1 : decode cX13_beginning 1 = .ok (.iload_n 1, 1) := by decide +kernel
theorem dX13_beginning_2 : decode cX13_beginning 2 = .ok (.iconst 0, 1) := by decide +kernel
theorem dX13_beginning_3 : decode cX13_beginning 3 = .ok (.invokevirtual 381, 3) := by decide +kernel
theorem dX13_beginning_6 : decode cX13_beginning 6 = .ok (.istore_n 2, 1) := by decide +kernel
theorem dX13_beginning_7 : decode cX13_beginning 7 = .ok (.iload_n 2, 1) := by decide +kernel
theorem dX13_beginning_8 : decode cX13_beginning 8 = .ok (.invokestatic 395, 3) := by decide +kernel
theorem dX13_beginning_11 : decode cX13_beginning 11 = .ok (.istore_n 3, 1) := by decide +kernel
theorem dX13_beginning_12 : decode cX13_beginning 12 = .ok (.aload_n 0, 1) := by decide +kernel
theorem dX13_beginning_13 : decode cX13_beginning 13 = .ok (.getfield 398, 3) := by decide +kernel
theorem dX13_beginning_16 : decode cX13_beginning 16 = .ok (.iconst 1, 1) := by decide +kernel
theorem dX13_beginning_17 : decode cX13_beginning 17 = .ok (.iadd, 1) := by decide +kernel
theorem dX13_beginning_18 : decode cX13_beginning 18 = .ok (.aload_n 0, 1) := by decide +kernel
theorem dX13_beginning_19 : decode cX13_beginning 19 = .ok (.getfield 401, 3) := by decide +kernel
theorem dX13_beginning_22 : decode cX13_beginning 22 = .ok (.invokestatic 178, 3) := by decide +kernel
theorem dX13_beginning_25 : decode cX13_beginning 25 = .ok (.istore 4, 2) := by decide +kernel
theorem dX13_beginning_27 : decode cX13_beginning 27 = .ok (.iload_n 3, 1) := by decide +kernel
theorem dX13_beginning_28 : decode cX13_beginning 28 = .ok (.ifCond .lt 16, 3) := by decide +kernel
theorem dX13_beginning_31 : decode cX13_beginning 31 = .ok (.iload 4, 2) := by decide +kernel
theorem dX13_beginning_33 : decode cX13_beginning 33 = .ok (.aload_n 0, 1) := by decide +kernel
theorem dX13_beginning_34 : decode cX13_beginning 34 = .ok (.getfield 44, 3) := by decide +kernel
theorem dX13_beginning_37 : decode cX13_beginning 37 = .ok (.iload_n 3, 1) := by decide +kernel
theorem dX13_beginning_38 : decode cX13_beginning 38 = .ok (.iaload, 1) := by decide +kernel
theorem dX13_beginning_39 : decode cX13_beginning 39 = .ok (.invokestatic 178, 3) := by decide +kernel
theorem dX13_beginning_42 : decode cX13_beginning 42 = .ok (.istore 4, 2) := by decide +kernel
theorem dX13_beginning_44 : decode cX13_beginning 44 = .ok (.iload_n 2, 1) := by decide +kernel
theorem dX13_beginning_45 : decode cX13_beginning 45 = .ok (.invokestatic 354, 3) := by decide +kernel
theorem dX13_beginning_48 : decode cX13_beginning 48 = .ok (.ifCond .ne 9, 3) := by decide +kernel
theorem dX13_beginning_51 : decode cX13_beginning 51 = .ok (.iload_n 2, 1) := by decide +kernel
theorem dX13_beginning_52 : decode cX13_beginning 52 = .ok (.bipush 20, 2) := by decide +kernel
theorem dX13_beginning_54 : decode cX13_beginning 54 = .ok (.if_icmp .ne 7, 3) := by decide +kernel
theorem dX13_beginning_57 : decode cX13_beginning 57 = .ok (.iconst 1, 1) := by decide +kernel
theorem dX13_beginning_58 : decode cX13_beginning 58 = .ok (.goto 4, 3) := by decide +kernel
theorem dX13_beginning_61 : decode cX13_beginning 61 = .ok (.iconst 0, 1) := by decide +kernel
theorem dX13_beginning_62 : decode cX13_beginning 62 = .ok (.istore 5, 2) := by decide +kernel
theorem dX13_beginning_64 : decode cX13_beginning 64 = .ok (.iload 5, 2) := by decide +kernel
theorem dX13_beginning_66 : decode cX13_beginning 66 = .ok (.ifCond .ne 26, 3) := by decide +kernel
theorem dX13_beginning_69 : decode cX13_beginning 69 = .ok (.iload_n 2, 1) := by decide +kernel
theorem dX13_beginning_70 : decode cX13_beginning 70 = .ok (.bipush 21, 2) := by decide +kernel
theorem dX13_beginning_72 : decode cX13_beginning 72 = .ok (.if_icmp .eq 20, 3) := by decide +kernel
theorem dX13_beginning_75 : decode cX13_beginning 75 = .ok (.iload_n 2, 1) := by decide +kernel
theorem dX13_beginning_76 : decode cX13_beginning 76 = .ok (.bipush 22, 2) := by decide +kernel
theorem dX13_beginning_78 : decode cX13_beginning 78 = .ok (.if_icmp .eq 14, 3) := by decide +kernel
theorem dX13_beginning_81 : decode cX13_beginning 81 = .ok (.aload_n 0, 1) := by decide +kernel
theorem dX13_beginning_82 : decode cX13_beginning 82 = .ok (.iload_n 1, 1) := by decide +kernel
theorem dX13_beginning_83 : decode cX13_beginning 83 = .ok (.bipush 6, 2) := by decide +kernel
theorem dX13_beginning_85 : decode cX13_beginning 85 = .ok (.invokevirtual 381, 3) := by decide +kernel
theorem dX13_beginning_88 : decode cX13_beginning 88 = .ok (.iconst 1, 1) := by decide +kernel
theorem dX13_beginning_89 : decode cX13_beginning 89 = .ok (.if_icmp .ne 14, 3) := by decide +kernel
theorem dX13_beginning_92 : decode cX13_beginning 92 = .ok (.iload 4, 2) := by decide +kernel
theorem dX13_beginning_94 : decode cX13_beginning 94 = .ok (.aload_n 0, 1) := by decide +kernel
theorem dX13_beginning_95 : decode cX13_beginning 95 = .ok (.getfield 404, 3) := by decide +kernel
theorem dX13_beginning_98 : decode cX13_beginning 98 = .ok (.invokestatic 178, 3) := by decide +kernel
theorem dX13_beginning_101 : decode cX13_beginning 101 = .ok (.istore 4, 2) := by decide +kernel
theorem dX13_beginning_103 : decode cX13_beginning 103 = .ok (.iload 5, 2) := by decide +kernel
theorem dX13_beginning_105 : decode cX13_beginning 105 = .ok (.ifCond .eq 14, 3) := by decide +kernel
theorem dX13_beginning_108 : decode cX13_beginning 108 = .ok (.iload 4, 2) := by decide +kernel
theorem dX13_beginning_110 : decode cX13_beginning 110 = .ok (.aload_n 0, 1) := by decide +kernel
theorem dX13_beginning_111 : decode cX13_beginning 111 = .ok (.getfield 407, 3) := by decide +kernel
theorem dX13_beginning_114 : decode cX13_beginning 114 = .ok (.invokestatic 178, 3) := by decide +kernel
theorem dX13_beginning_117 : decode cX13_beginning 117 = .ok (.istore 4, 2) := by decide +kernel
theorem dX13_beginning_119 : decode cX13_beginning 119 = .ok (.iload_n 2, 1) := by decide +kernel
theorem dX13_beginning_120 : decode cX13_beginning 120 = .ok (.bipush 21, 2) := by decide +kernel
theorem dX13_beginning_122 : decode cX13_beginning 122 = .ok (.if_icmp .eq 10, 3) := by decide +kernel
theorem dX13_beginning_125 : decode cX13_beginning 125 = .ok (.iload_n 2, 1) := by decide +kernel
theorem dX13_beginning_126 : decode cX13_beginning 126 = .ok (.invokestatic 357, 3) := by decide +kernel
theorem dX13_beginning_129 : decode cX13_beginning 129 = .ok (.ifCond .eq 24, 3) := by decide +kernel
theorem dX13_beginning_132 : decode cX13_beginning 132 = .ok (.iload 4, 2) := by decide +kernel
theorem dX13_beginning_134 : decode cX13_beginning 134 = .ok (.aload_n 0, 1) := by decide +kernel
theorem dX13_beginning_135 : decode cX13_beginning 135 = .ok (.aload_n 0, 1) := by decide +kernel
theorem dX13_beginning_136 : decode cX13_beginning 136 = .ok (.getfield 38, 3) := by decide +kernel
theorem dX13_beginning_139 : decode cX13_beginning 139 = .ok (.aload_n 0, 1) := by decide +kernel
theorem dX13_beginning_140 : decode cX13_beginning 140 = .ok (.iload_n 1, 1) := by decide +kernel
theorem dX13_beginning_141 : decode cX13_beginning 141 = .ok (.iconst 1, 1) := by decide +kernel
theorem dX13_beginning_142 : decode cX13_beginning 142 = .ok (.invokevirtual 381, 3) := by decide +kernel
theorem dX13_beginning_145 : decode cX13_beginning 145 = .ok (.invokevirtual 410, 3) := by decide +kernel
theorem dX13_beginning_148 : decode cX13_beginning 148 = .ok (.invokestatic 178, 3) := by decide +kernel
theorem dX13_beginning_151 : decode cX13_beginning 151 = .ok (.istore 4, 2) := by decide +kernel
theorem dX13_beginning_153 : decode cX13_beginning 153 = .ok (.iload_n 2, 1) := by decide +kernel
theorem dX13_beginning_154 : decode cX13_beginning 154 = .ok (.bipush 21, 2) := by decide +kernel
theorem dX13_beginning_156 : decode cX13_beginning 156 = .ok (.if_icmp .ne 24, 3) := by decide +kernel
theorem dX13_beginning_159 : decode cX13_beginning 159 = .ok (.iload 4, 2) := by decide +kernel
theorem dX13_beginning_161 : decode cX13_beginning 161 = .ok (.aload_n 0, 1) := by decide +kernel
theorem dX13_beginning_162 : decode cX13_beginning 162 = .ok (.aload_n 0, 1) := by decide +kernel
theorem dX13_beginning_163 : decode cX13_beginning 163 = .ok (.getfield 41, 3) := by decide +kernel
theorem dX13_beginning_166 : decode cX13_beginning 166 = .ok (.aload_n 0, 1) := by decide +kernel
theorem dX13_beginning_167 : decode cX13_beginning 167 = .ok (.iload_n 1, 1) := by decide +kernel
theorem dX13_beginning_168 : decode cX13_beginning 168 = .ok (.iconst 1, 1) := by decide +kernel
theorem dX13_beginning_169 : decode cX13_beginning 169 = .ok (.invokevirtual 381, 3) := by decide +kernel
theorem dX13_beginning_172 : decode cX13_beginning 172 = .ok (.invokevirtual 410, 3) := by decide +kernel
theorem dX13_beginning_175 : decode cX13_beginning 175 = .ok (.invokestatic 178, 3) := by decide +kernel
theorem dX13_beginning_178 : decode cX13_beginning 178 = .ok (.istore 4, 2) := by decide +kernel
theorem dX13_beginning_180 : decode cX13_beginning 180 = .ok (.iload 4, 2) := by decide +kernel
theorem dX13_beginning_182 : decode cX13_beginning 182 = .ok (.ireturn, 1) := by decide +kernel
def pX13_beginning_b153 (g : MT) (h : CT) (this : Nat) (p1 : Int32) (l2 : Int32) (l4 : Int32) : Option Int32 := if l2 = 21 then lt (hR h this 24) fun r2 => (bd (pX13_at g h this p1 1) fun x3 => (nn r2 fun a2 => (bd (pX13_rowTime g h this a2 x3) fun x5 => (lt (pJ9_max_7cf53 l4 x5) fun x7 => (some x7))))) else some l4
set_option maxRecDepth 10000 in
set_option maxHeartbeats 4000000 in
theorem pX13_beginning_b153_ok {X : Cx} {G : Gx} {dk : Nat} {g : MT} {r0 : Int32} {h : CT} {this : Nat} {p1 : Int32} (Z : Zx X G cX13_beginning RX13 6 dk (some .int) (some (.int r0)) g h) (hK : 3 ≤ dk) (t0 : gT g this = 12) (l2 : Int32) (l4 : Int32) (hf : pX13_beginning_b153 g h this p1 l2 l4 = some r0) : J X g h 153 [(0, va_rf (some this)), (1, .int p1), (2, .int l2), (4, .int l4)] [] := by
  unfold pX13_beginning_b153 at hf
  refine J_iload_n Z.1 2 dX13_beginning_153 rfl rfl ?_
  refine J_bipush Z.1 (v := 21) (by decide) dX13_beginning_154 ?_
  refine J_icmp_ne Z.1 180 dX13_beginning_156 (by decide) (fun c1 => ?_) (fun c1 => ?_)
  · rw [if_neg c1] at hf
    refine J_iload Z.1 3 dX13_beginning_180 rfl ?_
    cases hf
    exact J_iret Z.1 Z.2.2.2.2.2 dX13_beginning_182
  · rw [if_pos c1] at hf
    refine J_iload Z.1 3 dX13_beginning_159 rfl ?_
    refine J_aload_n Z.1 0 dX13_beginning_161 rfl rfl ?_
    refine J_aload_n Z.1 0 dX13_beginning_162 rfl rfl ?_
    refine J_get (v := va_rf (hR h this 24)) Z.1 dX13_beginning_163 fl_X13_41 t0 rfl ?_
    refine J_tr (fun r2 er2 => ?_)
    replace hf := lt_i hf r2 er2
    refine J_aload_n Z.1 0 dX13_beginning_166 rfl rfl ?_
    refine J_iload_n Z.1 1 dX13_beginning_167 rfl rfl ?_
    refine J_iconst Z.1 (v := 1) (by decide) dX13_beginning_168 ?_
    obtain ⟨x3, q4, hf⟩ := bd_i hf
    refine J_callV (ci := 11) (as := [.int p1, .int 1]) (rest := [va_rf r2, va_rf (some this), .int l4]) (sy := [.int x3, va_rf r2, va_rf (some this), .int l4]) Z.1 dX13_beginning_169 cw_X13_381 (pX13_at_ok G (dk - 1) (by omega) q4) rfl rfl t0 (zG Z) rfl (by simp [cat_i, cat_l, cat_d, cat_rf]) (zF Z (by omega)) (zO Z (by omega) (by decide)) (zM _) Z.2.1 Z.2.1 rfl rfl ?_
    obtain ⟨a2, rfl, hf⟩ := nn_i hf
    obtain ⟨x5, q6, hf⟩ := bd_i hf
    refine J_callV (ci := 11) (as := [va_rf (some a2), .int x3]) (rest := [.int l4]) (sy := [.int x5, .int l4]) Z.1 dX13_beginning_172 cw_X13_410 (pX13_rowTime_ok G (dk - 1) (by omega) q6) rfl rfl t0 (zG Z) rfl (by simp [cat_i, cat_l, cat_d, cat_rf]) (zF Z (by omega)) (zO Z (by omega) (by decide)) (zM _) Z.2.1 Z.2.1 rfl rfl ?_
    refine J_callS (as := [.int l4, .int x5]) (rest := []) (sy := [.int (pJ9_max_7cf53 l4 x5)]) Z.1 dX13_beginning_175 cw_X13_178 (pJ9_max_7cf53_ok G (dk - 1) (by omega) g h l4 x5) (zG Z) rfl (by decide) (zF Z (by omega)) (zO Z (by omega) (by decide)) (zM _) Z.2.1 Z.2.1 rfl rfl ?_
    refine J_ti (fun x7 ex7 => ?_)
    replace hf := lt_i hf x7 ex7
    refine J_istore Z.1 (lv2 := [(4, .int x7), (0, va_rf (some this)), (1, .int p1), (2, .int l2)]) dX13_beginning_178 (zL Z (by decide)) rfl ?_
    refine J_iload Z.1 0 dX13_beginning_180 rfl ?_
    cases hf
    exact J_iret Z.1 Z.2.2.2.2.2 dX13_beginning_182
def pX13_beginning_b132 (g : MT) (h : CT) (this : Nat) (p1 : Int32) (l2 : Int32) (l4 : Int32) : Option Int32 := lt (hR h this 23) fun r1 => (bd (pX13_at g h this p1 1) fun x2 => (nn r1 fun a1 => (bd (pX13_rowTime g h this a1 x2) fun x4 => (lt (pJ9_max_7cf53 l4 x4) fun x6 => (pX13_beginning_b153 g h this p1  l2 x6)))))
set_option maxRecDepth 10000 in
set_option maxHeartbeats 4000000 in
theorem pX13_beginning_b132_ok {X : Cx} {G : Gx} {dk : Nat} {g : MT} {r0 : Int32} {h : CT} {this : Nat} {p1 : Int32} (Z : Zx X G cX13_beginning RX13 6 dk (some .int) (some (.int r0)) g h) (hK : 3 ≤ dk) (t0 : gT g this = 12) (l2 : Int32) (l4 : Int32) (hf : pX13_beginning_b132 g h this p1 l2 l4 = some r0) : J X g h 132 [(0, va_rf (some this)), (1, .int p1), (2, .int l2), (4, .int l4)] [] := by
  unfold pX13_beginning_b132 at hf
  refine J_iload Z.1 3 dX13_beginning_132 rfl ?_
  refine J_aload_n Z.1 0 dX13_beginning_134 rfl rfl ?_
  refine J_aload_n Z.1 0 dX13_beginning_135 rfl rfl ?_
  refine J_get (v := va_rf (hR h this 23)) Z.1 dX13_beginning_136 fl_X13_38 t0 rfl ?_
  refine J_tr (fun r1 er1 => ?_)
  replace hf := lt_i hf r1 er1
  refine J_aload_n Z.1 0 dX13_beginning_139 rfl rfl ?_
  refine J_iload_n Z.1 1 dX13_beginning_140 rfl rfl ?_
  refine J_iconst Z.1 (v := 1) (by decide) dX13_beginning_141 ?_
  obtain ⟨x2, q3, hf⟩ := bd_i hf
  refine J_callV (ci := 11) (as := [.int p1, .int 1]) (rest := [va_rf r1, va_rf (some this), .int l4]) (sy := [.int x2, va_rf r1, va_rf (some this), .int l4]) Z.1 dX13_beginning_142 cw_X13_381 (pX13_at_ok G (dk - 1) (by omega) q3) rfl rfl t0 (zG Z) rfl (by simp [cat_i, cat_l, cat_d, cat_rf]) (zF Z (by omega)) (zO Z (by omega) (by decide)) (zM _) Z.2.1 Z.2.1 rfl rfl ?_
  obtain ⟨a1, rfl, hf⟩ := nn_i hf
  obtain ⟨x4, q5, hf⟩ := bd_i hf
  refine J_callV (ci := 11) (as := [va_rf (some a1), .int x2]) (rest := [.int l4]) (sy := [.int x4, .int l4]) Z.1 dX13_beginning_145 cw_X13_410 (pX13_rowTime_ok G (dk - 1) (by omega) q5) rfl rfl t0 (zG Z) rfl (by simp [cat_i, cat_l, cat_d, cat_rf]) (zF Z (by omega)) (zO Z (by omega) (by decide)) (zM _) Z.2.1 Z.2.1 rfl rfl ?_
  refine J_callS (as := [.int l4, .int x4]) (rest := []) (sy := [.int (pJ9_max_7cf53 l4 x4)]) Z.1 dX13_beginning_148 cw_X13_178 (pJ9_max_7cf53_ok G (dk - 1) (by omega) g h l4 x4) (zG Z) rfl (by decide) (zF Z (by omega)) (zO Z (by omega) (by decide)) (zM _) Z.2.1 Z.2.1 rfl rfl ?_
  refine J_ti (fun x6 ex6 => ?_)
  replace hf := lt_i hf x6 ex6
  refine J_istore Z.1 (lv2 := [(4, .int x6), (0, va_rf (some this)), (1, .int p1), (2, .int l2)]) dX13_beginning_151 (zL Z (by decide)) rfl ?_
  refine J_lv [1, 2, 3, 0] rfl ?_
  exact pX13_beginning_b153_ok Z hK t0  _ _ hf
def pX13_beginning_b119 (g : MT) (h : CT) (this : Nat) (p1 : Int32) (l2 : Int32) (l4 : Int32) : Option Int32 := if l2 = 21 then pX13_beginning_b132 g h this p1  l2 l4 else if (pX13_isFolded l2) = 0 then pX13_beginning_b153 g h this p1  l2 l4 else pX13_beginning_b132 g h this p1  l2 l4
set_option maxRecDepth 10000 in
set_option maxHeartbeats 4000000 in
theorem pX13_beginning_b119_ok {X : Cx} {G : Gx} {dk : Nat} {g : MT} {r0 : Int32} {h : CT} {this : Nat} {p1 : Int32} (Z : Zx X G cX13_beginning RX13 6 dk (some .int) (some (.int r0)) g h) (hK : 3 ≤ dk) (t0 : gT g this = 12) (l2 : Int32) (l4 : Int32) (hf : pX13_beginning_b119 g h this p1 l2 l4 = some r0) : J X g h 119 [(0, va_rf (some this)), (1, .int p1), (2, .int l2), (4, .int l4)] [] := by
  unfold pX13_beginning_b119 at hf
  refine J_iload_n Z.1 2 dX13_beginning_119 rfl rfl ?_
  refine J_bipush Z.1 (v := 21) (by decide) dX13_beginning_120 ?_
  refine J_icmp_eq Z.1 132 dX13_beginning_122 (by decide) (fun c1 => ?_) (fun c1 => ?_)
  · rw [if_pos c1] at hf
    exact pX13_beginning_b132_ok Z hK t0  _ _ hf
  · rw [if_neg c1] at hf
    refine J_iload_n Z.1 2 dX13_beginning_125 rfl rfl ?_
    refine J_callS (as := [.int l2]) (rest := []) (sy := [.int (pX13_isFolded l2)]) Z.1 dX13_beginning_126 cw_X13_357 (pX13_isFolded_ok G (dk - 1) (by omega) g h l2) (zG Z) rfl (by decide) (zF Z (by omega)) (zO Z (by omega) (by decide)) (zM _) Z.2.1 Z.2.1 rfl rfl ?_
    refine J_if_eq Z.1 153 dX13_beginning_129 (by decide) (fun c2 => ?_) (fun c2 => ?_)
    · rw [if_pos c2] at hf
      exact pX13_beginning_b153_ok Z hK t0  _ _ hf
    · rw [if_neg c2] at hf
      exact pX13_beginning_b132_ok Z hK t0  _ _ hf
def pX13_beginning_b103 (g : MT) (h : CT) (this : Nat) (p1 : Int32) (l2 : Int32) (l4 : Int32) (l5 : Int32) : Option Int32 := if l5 = 0 then pX13_beginning_b119 g h this p1  l2 l4 else lt (pJ9_max_7cf53 l4 (hI h this 30)) fun x2 => (pX13_beginning_b119 g h this p1  l2 x2)
set_option maxRecDepth 10000 in
set_option maxHeartbeats 4000000 in
theorem pX13_beginning_b103_ok {X : Cx} {G : Gx} {dk : Nat} {g : MT} {r0 : Int32} {h : CT} {this : Nat} {p1 : Int32} (Z : Zx X G cX13_beginning RX13 6 dk (some .int) (some (.int r0)) g h) (hK : 3 ≤ dk) (t0 : gT g this = 12) (l2 : Int32) (l4 : Int32) (l5 : Int32) (hf : pX13_beginning_b103 g h this p1 l2 l4 l5 = some r0) : J X g h 103 [(0, va_rf (some this)), (1, .int p1), (2, .int l2), (4, .int l4), (5, .int l5)] [] := by
  unfold pX13_beginning_b103 at hf
  refine J_iload Z.1 4 dX13_beginning_103 rfl ?_
  refine J_if_eq Z.1 119 dX13_beginning_105 (by decide) (fun c1 => ?_) (fun c1 => ?_)
  · rw [if_pos c1] at hf
    refine J_lv [0, 1, 2, 3] rfl ?_
    exact pX13_beginning_b119_ok Z hK t0  _ _ hf
  · rw [if_neg c1] at hf
    refine J_iload Z.1 3 dX13_beginning_108 rfl ?_
    refine J_aload_n Z.1 0 dX13_beginning_110 rfl rfl ?_
    refine J_get (v := .int (hI h this 30)) Z.1 dX13_beginning_111 fl_X13_407 t0 rfl ?_
    refine J_callS (as := [.int l4, .int (hI h this 30)]) (rest := []) (sy := [.int (pJ9_max_7cf53 l4 (hI h this 30))]) Z.1 dX13_beginning_114 cw_X13_178 (pJ9_max_7cf53_ok G (dk - 1) (by omega) g h l4 (hI h this 30)) (zG Z) rfl (by decide) (zF Z (by omega)) (zO Z (by omega) (by decide)) (zM _) Z.2.1 Z.2.1 rfl rfl ?_
    refine J_ti (fun x2 ex2 => ?_)
    replace hf := lt_i hf x2 ex2
    refine J_istore Z.1 (lv2 := [(4, .int x2), (0, va_rf (some this)), (1, .int p1), (2, .int l2), (5, .int l5)]) dX13_beginning_117 (zL Z (by decide)) rfl ?_
    refine J_lv [1, 2, 3, 0] rfl ?_
    exact pX13_beginning_b119_ok Z hK t0  _ _ hf
def pX13_beginning_b92 (g : MT) (h : CT) (this : Nat) (p1 : Int32) (l2 : Int32) (l4 : Int32) (l5 : Int32) : Option Int32 := lt (pJ9_max_7cf53 l4 (hI h this 29)) fun x1 => (pX13_beginning_b103 g h this p1  l2 x1 l5)
set_option maxRecDepth 10000 in
set_option maxHeartbeats 4000000 in
theorem pX13_beginning_b92_ok {X : Cx} {G : Gx} {dk : Nat} {g : MT} {r0 : Int32} {h : CT} {this : Nat} {p1 : Int32} (Z : Zx X G cX13_beginning RX13 6 dk (some .int) (some (.int r0)) g h) (hK : 3 ≤ dk) (t0 : gT g this = 12) (l2 : Int32) (l4 : Int32) (l5 : Int32) (hf : pX13_beginning_b92 g h this p1 l2 l4 l5 = some r0) : J X g h 92 [(0, va_rf (some this)), (1, .int p1), (2, .int l2), (4, .int l4), (5, .int l5)] [] := by
  unfold pX13_beginning_b92 at hf
  refine J_iload Z.1 3 dX13_beginning_92 rfl ?_
  refine J_aload_n Z.1 0 dX13_beginning_94 rfl rfl ?_
  refine J_get (v := .int (hI h this 29)) Z.1 dX13_beginning_95 fl_X13_404 t0 rfl ?_
  refine J_callS (as := [.int l4, .int (hI h this 29)]) (rest := []) (sy := [.int (pJ9_max_7cf53 l4 (hI h this 29))]) Z.1 dX13_beginning_98 cw_X13_178 (pJ9_max_7cf53_ok G (dk - 1) (by omega) g h l4 (hI h this 29)) (zG Z) rfl (by decide) (zF Z (by omega)) (zO Z (by omega) (by decide)) (zM _) Z.2.1 Z.2.1 rfl rfl ?_
  refine J_ti (fun x1 ex1 => ?_)
  replace hf := lt_i hf x1 ex1
  refine J_istore Z.1 (lv2 := [(4, .int x1), (0, va_rf (some this)), (1, .int p1), (2, .int l2), (5, .int l5)]) dX13_beginning_101 (zL Z (by decide)) rfl ?_
  refine J_lv [1, 2, 3, 0, 4] rfl ?_
  exact pX13_beginning_b103_ok Z hK t0  _ _ _ hf
def pX13_beginning_b62 (g : MT) (h : CT) (this : Nat) (p1 : Int32) (l2 : Int32) (l4 : Int32) (s0 : Int32) : Option Int32 := if s0 = 0 then if l2 = 21 then pX13_beginning_b92 g h this p1  l2 l4 s0 else if l2 = 22 then pX13_beginning_b92 g h this p1  l2 l4 s0 else bd (pX13_at g h this p1 6) fun x4 => (if x4 = 1 then pX13_beginning_b92 g h this p1  l2 l4 s0 else pX13_beginning_b103 g h this p1  l2 l4 s0) else pX13_beginning_b92 g h this p1  l2 l4 s0
set_option maxRecDepth 10000 in
set_option maxHeartbeats 4000000 in
theorem pX13_beginning_b62_ok {X : Cx} {G : Gx} {dk : Nat} {g : MT} {r0 : Int32} {h : CT} {this : Nat} {p1 : Int32} (Z : Zx X G cX13_beginning RX13 6 dk (some .int) (some (.int r0)) g h) (hK : 3 ≤ dk) (t0 : gT g this = 12) (l2 : Int32) (l4 : Int32) (s0 : Int32) (hf : pX13_beginning_b62 g h this p1 l2 l4 s0 = some r0) : J X g h 62 [(0, va_rf (some this)), (1, .int p1), (2, .int l2), (4, .int l4)] [.int s0] := by
  unfold pX13_beginning_b62 at hf
  refine J_istore Z.1 (lv2 := [(5, .int s0), (0, va_rf (some this)), (1, .int p1), (2, .int l2), (4, .int l4)]) dX13_beginning_62 (zL Z (by decide)) rfl ?_
  refine J_iload Z.1 0 dX13_beginning_64 rfl ?_
  refine J_if_ne Z.1 92 dX13_beginning_66 (by decide) (fun c1 => ?_) (fun c1 => ?_)
  · rw [if_neg c1] at hf
    refine J_lv [1, 2, 3, 4, 0] rfl ?_
    exact pX13_beginning_b92_ok Z hK t0  _ _ _ hf
  · rw [if_pos c1] at hf
    refine J_iload_n Z.1 3 dX13_beginning_69 rfl rfl ?_
    refine J_bipush Z.1 (v := 21) (by decide) dX13_beginning_70 ?_
    refine J_icmp_eq Z.1 92 dX13_beginning_72 (by decide) (fun c2 => ?_) (fun c2 => ?_)
    · rw [if_pos c2] at hf
      refine J_lv [1, 2, 3, 4, 0] rfl ?_
      exact pX13_beginning_b92_ok Z hK t0  _ _ _ hf
    · rw [if_neg c2] at hf
      refine J_iload_n Z.1 3 dX13_beginning_75 rfl rfl ?_
      refine J_bipush Z.1 (v := 22) (by decide) dX13_beginning_76 ?_
      refine J_icmp_eq Z.1 92 dX13_beginning_78 (by decide) (fun c3 => ?_) (fun c3 => ?_)
      · rw [if_pos c3] at hf
        refine J_lv [1, 2, 3, 4, 0] rfl ?_
        exact pX13_beginning_b92_ok Z hK t0  _ _ _ hf
      · rw [if_neg c3] at hf
        refine J_aload_n Z.1 1 dX13_beginning_81 rfl rfl ?_
        refine J_iload_n Z.1 2 dX13_beginning_82 rfl rfl ?_
        refine J_bipush Z.1 (v := 6) (by decide) dX13_beginning_83 ?_
        obtain ⟨x4, q5, hf⟩ := bd_i hf
        refine J_callV (ci := 11) (as := [.int p1, .int 6]) (rest := []) (sy := [.int x4]) Z.1 dX13_beginning_85 cw_X13_381 (pX13_at_ok G (dk - 1) (by omega) q5) rfl rfl t0 (zG Z) rfl (by decide) (zF Z (by omega)) (zO Z (by omega) (by decide)) (zM _) Z.2.1 Z.2.1 rfl rfl ?_
        refine J_iconst Z.1 (v := 1) (by decide) dX13_beginning_88 ?_
        refine J_icmp_ne Z.1 103 dX13_beginning_89 (by decide) (fun c6 => ?_) (fun c6 => ?_)
        · rw [if_neg c6] at hf
          refine J_lv [1, 2, 3, 4, 0] rfl ?_
          exact pX13_beginning_b103_ok Z hK t0  _ _ _ hf
        · rw [if_pos c6] at hf
          refine J_lv [1, 2, 3, 4, 0] rfl ?_
          exact pX13_beginning_b92_ok Z hK t0  _ _ _ hf
def pX13_beginning_b57 (g : MT) (h : CT) (this : Nat) (p1 : Int32) (l2 : Int32) (l4 : Int32) : Option Int32 := pX13_beginning_b62 g h this p1  l2 l4 1
set_option maxRecDepth 10000 in
set_option maxHeartbeats 4000000 in
theorem pX13_beginning_b57_ok {X : Cx} {G : Gx} {dk : Nat} {g : MT} {r0 : Int32} {h : CT} {this : Nat} {p1 : Int32} (Z : Zx X G cX13_beginning RX13 6 dk (some .int) (some (.int r0)) g h) (hK : 3 ≤ dk) (t0 : gT g this = 12) (l2 : Int32) (l4 : Int32) (hf : pX13_beginning_b57 g h this p1 l2 l4 = some r0) : J X g h 57 [(0, va_rf (some this)), (1, .int p1), (2, .int l2), (4, .int l4)] [] := by
  unfold pX13_beginning_b57 at hf
  refine J_iconst Z.1 (v := 1) (by decide) dX13_beginning_57 ?_
  refine J_goto Z.1 62 dX13_beginning_58 (by decide) ?_
  exact pX13_beginning_b62_ok Z hK t0  _ _ _ hf
def pX13_beginning_b44 (g : MT) (h : CT) (this : Nat) (p1 : Int32) (l2 : Int32) (l4 : Int32) : Option Int32 := if (pX13_isCompared l2) = 0 then if l2 = 20 then pX13_beginning_b57 g h this p1  l2 l4 else pX13_beginning_b62 g h this p1  l2 l4 0 else pX13_beginning_b57 g h this p1  l2 l4
set_option maxRecDepth 10000 in
set_option maxHeartbeats 4000000 in
theorem pX13_beginning_b44_ok {X : Cx} {G : Gx} {dk : Nat} {g : MT} {r0 : Int32} {h : CT} {this : Nat} {p1 : Int32} (Z : Zx X G cX13_beginning RX13 6 dk (some .int) (some (.int r0)) g h) (hK : 3 ≤ dk) (t0 : gT g this = 12) (l2 : Int32) (l4 : Int32) (hf : pX13_beginning_b44 g h this p1 l2 l4 = some r0) : J X g h 44 [(0, va_rf (some this)), (1, .int p1), (2, .int l2), (4, .int l4)] [] := by
  unfold pX13_beginning_b44 at hf
  refine J_iload_n Z.1 2 dX13_beginning_44 rfl rfl ?_
  refine J_callS (as := [.int l2]) (rest := []) (sy := [.int (pX13_isCompared l2)]) Z.1 dX13_beginning_45 cw_X13_354 (pX13_isCompared_ok G (dk - 1) (by omega) g h l2) (zG Z) rfl (by decide) (zF Z (by omega)) (zO Z (by omega) (by decide)) (zM _) Z.2.1 Z.2.1 rfl rfl ?_
  refine J_if_ne Z.1 57 dX13_beginning_48 (by decide) (fun c1 => ?_) (fun c1 => ?_)
  · rw [if_neg c1] at hf
    exact pX13_beginning_b57_ok Z hK t0  _ _ hf
  · rw [if_pos c1] at hf
    refine J_iload_n Z.1 2 dX13_beginning_51 rfl rfl ?_
    refine J_bipush Z.1 (v := 20) (by decide) dX13_beginning_52 ?_
    refine J_icmp_ne Z.1 61 dX13_beginning_54 (by decide) (fun c2 => ?_) (fun c2 => ?_)
    · rw [if_neg c2] at hf
      refine J_iconst Z.1 (v := 0) (by decide) dX13_beginning_61 ?_
      exact pX13_beginning_b62_ok Z hK t0  _ _ _ hf
    · rw [if_pos c2] at hf
      exact pX13_beginning_b57_ok Z hK t0  _ _ hf
def pX13_beginning (g : MT) (h : CT) (this : Nat) (p1 : Int32) : Option Int32 := tg g this 12 (bd (pX13_at g h this p1 0) fun x1 => (lt (pX13_unitOf x1) fun x3 => (lt (pJ9_max_7cf53 ((hI h this 32) + 1) (hI h this 31)) fun x4 => (if x3 < 0 then pX13_beginning_b44 g h this p1  x1 x4 else lt (hR h this 25) fun r6 => (nn r6 fun a6 => (tg g a6 20 (ix (gL g a6) x3 (lt (pJ9_max_7cf53 x4 (hI h a6 (Int32.toNatClampNeg x3))) fun x9 => (pX13_beginning_b44 g h this p1  x1 x9)))))))))
set_option maxRecDepth 10000 in
set_option maxHeartbeats 4000000 in
theorem pX13_beginning_ok (G : Gx) (dk : Nat) (hK : 3 ≤ dk) {g : MT} {h : CT} {this : Nat} {p1 : Int32} {r0 : Int32} (hf : pX13_beginning g h this p1 = some r0) : Ctr G dk yX13_beginning cX13_beginning 6 (some .int) [va_rf (some this), .int p1] g h (some (.int r0)) g h := by
  refine Ctr.ofZ (lv := [(0, va_rf (some this)), (1, .int p1)]) (by decide +kernel) (by simp [cat_i, cat_l, cat_d, cat_rf]) rfl fun X Z => ?_
  unfold pX13_beginning at hf
  obtain ⟨t0, hf⟩ := tg_i hf
  refine J_aload_n Z.1 0 dX13_beginning_0 rfl rfl ?_
  refine J_iload_n Z.1 1 dX13_beginning_1 rfl rfl ?_
  refine J_iconst Z.1 (v := 0) (by decide) dX13_beginning_2 ?_
  obtain ⟨x1, q2, hf⟩ := bd_i hf
  refine J_callV (ci := 11) (as := [.int p1, .int 0]) (rest := []) (sy := [.int x1]) Z.1 dX13_beginning_3 cw_X13_381 (pX13_at_ok G (dk - 1) (by omega) q2) rfl rfl t0 (zG Z) rfl (by decide) (zF Z (by omega)) (zO Z (by omega) (by decide)) (zM _) Z.2.1 Z.2.1 rfl rfl ?_
  refine J_istore_n Z.1 (lv2 := [(2, .int x1), (0, va_rf (some this)), (1, .int p1)]) dX13_beginning_6 rfl (zL Z (by decide)) rfl ?_
  refine J_iload_n Z.1 0 dX13_beginning_7 rfl rfl ?_
  refine J_callS (as := [.int x1]) (rest := []) (sy := [.int (pX13_unitOf x1)]) Z.1 dX13_beginning_8 cw_X13_395 (pX13_unitOf_ok G (dk - 1) (by omega) g h x1) (zG Z) rfl (by decide) (zF Z (by omega)) (zO Z (by omega) (by decide)) (zM _) Z.2.1 Z.2.1 rfl rfl ?_
  refine J_ti (fun x3 ex3 => ?_)
  replace hf := lt_i hf x3 ex3
  refine J_istore_n Z.1 (lv2 := [(3, .int x3), (2, .int x1), (0, va_rf (some this)), (1, .int p1)]) dX13_beginning_11 rfl (zL Z (by decide)) rfl ?_
  refine J_aload_n Z.1 2 dX13_beginning_12 rfl rfl ?_
  refine J_get (v := .int (hI h this 32)) Z.1 dX13_beginning_13 fl_X13_398 t0 rfl ?_
  refine J_iconst Z.1 (v := 1) (by decide) dX13_beginning_16 ?_
  refine J_iadd Z.1 dX13_beginning_17 ?_
  refine J_aload_n Z.1 2 dX13_beginning_18 rfl rfl ?_
  refine J_get (v := .int (hI h this 31)) Z.1 dX13_beginning_19 fl_X13_401 t0 rfl ?_
  refine J_callS (as := [.int ((hI h this 32) + 1), .int (hI h this 31)]) (rest := []) (sy := [.int (pJ9_max_7cf53 ((hI h this 32) + 1) (hI h this 31))]) Z.1 dX13_beginning_22 cw_X13_178 (pJ9_max_7cf53_ok G (dk - 1) (by omega) g h ((hI h this 32) + 1) (hI h this 31)) (zG Z) rfl (by decide) (zF Z (by omega)) (zO Z (by omega) (by decide)) (zM _) Z.2.1 Z.2.1 rfl rfl ?_
  refine J_ti (fun x4 ex4 => ?_)
  replace hf := lt_i hf x4 ex4
  refine J_istore Z.1 (lv2 := [(4, .int x4), (3, .int x3), (2, .int x1), (0, va_rf (some this)), (1, .int p1)]) dX13_beginning_25 (zL Z (by decide)) rfl ?_
  refine J_iload_n Z.1 1 dX13_beginning_27 rfl rfl ?_
  refine J_if_lt Z.1 44 dX13_beginning_28 (by decide) (fun c5 => ?_) (fun c5 => ?_)
  · rw [if_pos c5] at hf
    refine J_lv [3, 4, 2, 0] rfl ?_
    exact pX13_beginning_b44_ok Z hK t0  _ _ hf
  · rw [if_neg c5] at hf
    refine J_iload Z.1 0 dX13_beginning_31 rfl ?_
    refine J_aload_n Z.1 3 dX13_beginning_33 rfl rfl ?_
    refine J_get (v := va_rf (hR h this 25)) Z.1 dX13_beginning_34 fl_X13_44 t0 rfl ?_
    refine J_tr (fun r6 er6 => ?_)
    replace hf := lt_i hf r6 er6
    refine J_iload_n Z.1 1 dX13_beginning_37 rfl rfl ?_
    obtain ⟨a6, rfl, hf⟩ := nn_i hf
    obtain ⟨t7, hf⟩ := tg_i hf
    obtain ⟨i8, hf⟩ := ix_i hf
    refine J_iaload Z.1 dX13_beginning_38 t7 i8 ?_
    refine J_callS (as := [.int x4, .int (hI h a6 (Int32.toNatClampNeg x3))]) (rest := []) (sy := [.int (pJ9_max_7cf53 x4 (hI h a6 (Int32.toNatClampNeg x3)))]) Z.1 dX13_beginning_39 cw_X13_178 (pJ9_max_7cf53_ok G (dk - 1) (by omega) g h x4 (hI h a6 (Int32.toNatClampNeg x3))) (zG Z) rfl (by decide) (zF Z (by omega)) (zO Z (by omega) (by decide)) (zM _) Z.2.1 Z.2.1 rfl rfl ?_
    refine J_ti (fun x9 ex9 => ?_)
    replace hf := lt_i hf x9 ex9
    refine J_istore Z.1 (lv2 := [(4, .int x9), (3, .int x3), (2, .int x1), (0, va_rf (some this)), (1, .int p1)]) dX13_beginning_42 (zL Z (by decide)) rfl ?_
    refine J_lv [3, 4, 2, 0] rfl ?_
    exact pX13_beginning_b44_ok Z hK t0  _ _ hf
theorem dX13_isIndex_0 : decode cX13_isIndex 0 = .ok (.dload_n 0, 1) := by decide +kernel
theorem dX13_isIndex_1 : decode cX13_isIndex 1 = .ok (.ldc2_w 414, 3) := by decide +kernel
theorem dX13_isIndex_4 : decode cX13_isIndex 4 = .ok (.dcmp .l, 1) := by decide +kernel
theorem dX13_isIndex_5 : decode cX13_isIndex 5 = .ok (.ifCond .lt 23, 3) := by decide +kernel
theorem dX13_isIndex_8 : decode cX13_isIndex 8 = .ok (.dload_n 0, 1) := by decide +kernel
theorem dX13_isIndex_9 : decode cX13_isIndex 9 = .ok (.ldc2_w 416, 3) := by decide +kernel
theorem dX13_isIndex_12 : decode cX13_isIndex 12 = .ok (.dcmp .g, 1) := by decide +kernel
theorem dX13_isIndex_13 : decode cX13_isIndex 13 = .ok (.ifCond .gt 15, 3) := by decide +kernel
theorem dX13_isIndex_16 : decode cX13_isIndex 16 = .ok (.dload_n 0, 1) := by decide +kernel
theorem dX13_isIndex_17 : decode cX13_isIndex 17 = .ok (.d2l, 1) := by decide +kernel
theorem dX13_isIndex_18 : decode cX13_isIndex 18 = .ok (.l2d, 1) := by decide +kernel
theorem dX13_isIndex_19 : decode cX13_isIndex 19 = .ok (.dload_n 0, 1) := by decide +kernel
theorem dX13_isIndex_20 : decode cX13_isIndex 20 = .ok (.dcmp .l, 1) := by decide +kernel
theorem dX13_isIndex_21 : decode cX13_isIndex 21 = .ok (.ifCond .ne 7, 3) := by decide +kernel
theorem dX13_isIndex_24 : decode cX13_isIndex 24 = .ok (.iconst 1, 1) := by decide +kernel
theorem dX13_isIndex_25 : decode cX13_isIndex 25 = .ok (.goto 4, 3) := by decide +kernel
theorem dX13_isIndex_28 : decode cX13_isIndex 28 = .ok (.iconst 0, 1) := by decide +kernel
theorem dX13_isIndex_29 : decode cX13_isIndex 29 = .ok (.ireturn, 1) := by decide +kernel
def pX13_isIndex (p0 : UInt64) : Int32 := if (Op.cmpValue (FP.dcmp p0 13920209183539462144) .l) < 0 then 0 else if 0 < (Op.cmpValue (FP.dcmp p0 4696837146684686336) .g) then 0 else if (Op.cmpValue (FP.dcmp (fl2d (FP.d2l p0)) p0) .l) = 0 then 1 else 0
set_option maxRecDepth 10000 in
set_option maxHeartbeats 4000000 in
theorem pX13_isIndex_ok (G : Gx) (dk : Nat) (hK : 0 ≤ dk) (g : MT) (h0 : CT) (p0 : UInt64) : Ctr G dk yX13_isIndex cX13_isIndex 2 (some .boolean) [.double p0] g h0 (some (.int (pX13_isIndex p0))) g h0 := by
  obtain ⟨r0, hf⟩ : ∃ z, pX13_isIndex p0 = z := ⟨_, rfl⟩
  rw [hf]
  refine Ctr.ofZ (lv := [(0, .double p0)]) (by decide +kernel) (by simp [cat_i, cat_l, cat_d, cat_rf]) rfl fun X Z => ?_
  unfold pX13_isIndex at hf
  refine J_dload_n Z.1 0 dX13_isIndex_0 rfl rfl ?_
  refine J_ldc2d Z.1 q_1959 (by decide +kernel) dX13_isIndex_1 ?_
  refine J_dcmp Z.1 dX13_isIndex_4 ?_
  refine J_if_lt Z.1 28 dX13_isIndex_5 (by decide) (fun c1 => ?_) (fun c1 => ?_)
  · rw [if_pos c1] at hf
    refine J_iconst Z.1 (v := 0) (by decide) dX13_isIndex_28 ?_
    cases hf
    exact J_zret Z.1 Z.2.2.2.2.2 (z_n (Or.inl rfl)) dX13_isIndex_29
  · rw [if_neg c1] at hf
    refine J_dload_n Z.1 0 dX13_isIndex_8 rfl rfl ?_
    refine J_ldc2d Z.1 q_1960 (by decide +kernel) dX13_isIndex_9 ?_
    refine J_dcmp Z.1 dX13_isIndex_12 ?_
    refine J_if_gt Z.1 28 dX13_isIndex_13 (by decide) (fun c2 => ?_) (fun c2 => ?_)
    · rw [if_pos c2] at hf
      refine J_iconst Z.1 (v := 0) (by decide) dX13_isIndex_28 ?_
      cases hf
      exact J_zret Z.1 Z.2.2.2.2.2 (z_n (Or.inl rfl)) dX13_isIndex_29
    · rw [if_neg c2] at hf
      refine J_dload_n Z.1 0 dX13_isIndex_16 rfl rfl ?_
      refine J_d2l Z.1 dX13_isIndex_17 ?_
      refine J_l2d Z.1 dX13_isIndex_18 ?_
      refine J_dload_n Z.1 0 dX13_isIndex_19 rfl rfl ?_
      refine J_dcmp Z.1 dX13_isIndex_20 ?_
      refine J_if_ne Z.1 28 dX13_isIndex_21 (by decide) (fun c3 => ?_) (fun c3 => ?_)
      · rw [if_neg c3] at hf
        refine J_iconst Z.1 (v := 0) (by decide) dX13_isIndex_28 ?_
        cases hf
        exact J_zret Z.1 Z.2.2.2.2.2 (z_n (Or.inl rfl)) dX13_isIndex_29
      · rw [if_pos c3] at hf
        refine J_iconst Z.1 (v := 1) (by decide) dX13_isIndex_24 ?_
        refine J_goto Z.1 29 dX13_isIndex_25 (by decide) ?_
        cases hf
        exact J_zret Z.1 Z.2.2.2.2.2 (z_n (Or.inr rfl)) dX13_isIndex_29
theorem pX13_isIndex_z (p0 : UInt64) : is01 (pX13_isIndex p0) := by
  unfold pX13_isIndex
  (try split) <;> (try split) <;> (try split) <;> (try split) <;> (try split) <;> (try split) <;> (try split) <;> (try split) <;> first | exact Or.inl rfl | exact Or.inr rfl | exact pX13_isIn_z _ _ _
theorem dX13_placeOf_0 : decode cX13_placeOf 0 = .ok (.aload_n 0, 1) := by decide +kernel
theorem dX13_placeOf_1 : decode cX13_placeOf 1 = .ok (.iload_n 1, 1) := by decide +kernel
theorem dX13_placeOf_2 : decode cX13_placeOf 2 = .ok (.iconst 0, 1) := by decide +kernel
theorem dX13_placeOf_3 : decode cX13_placeOf 3 = .ok (.invokevirtual 381, 3) := by decide +kernel
theorem dX13_placeOf_6 : decode cX13_placeOf 6 = .ok (.istore_n 3, 1) := by decide +kernel
theorem dX13_placeOf_7 : decode cX13_placeOf 7 = .ok (.aload_n 0, 1) := by decide +kernel
theorem dX13_placeOf_8 : decode cX13_placeOf 8 = .ok (.iload_n 1, 1) := by decide +kernel
theorem dX13_placeOf_9 : decode cX13_placeOf 9 = .ok (.iconst 4, 1) := by decide +kernel
theorem dX13_placeOf_10 : decode cX13_placeOf 10 = .ok (.invokevirtual 381, 3) := by decide +kernel
theorem dX13_placeOf_13 : decode cX13_placeOf 13 = .ok (.iload_n 3, 1) := by decide +kernel
theorem dX13_placeOf_14 : decode cX13_placeOf 14 = .ok (.invokestatic 351, 3) := by decide +kernel
theorem dX13_placeOf_17 : decode cX13_placeOf 17 = .ok (.ifCond .eq 23, 3) := by decide +kernel
theorem dX13_placeOf_20 : decode cX13_placeOf 20 = .ok (.aload_n 0, 1) := by decide +kernel
theorem dX13_placeOf_21 : decode cX13_placeOf 21 = .ok (.getfield 34, 3) := by decide +kernel
theorem dX13_placeOf_24 : decode cX13_placeOf 24 = .ok (.bipush 16, 2) := by decide +kernel
theorem dX13_placeOf_26 : decode cX13_placeOf 26 = .ok (.aload_n 0, 1) := by decide +kernel
theorem dX13_placeOf_27 : decode cX13_placeOf 27 = .ok (.iload_n 1, 1) := by decide +kernel
theorem dX13_placeOf_28 : decode cX13_placeOf 28 = .ok (.iconst 3, 1) := by decide +kernel
theorem dX13_placeOf_29 : decode cX13_placeOf 29 = .ok (.invokevirtual 381, 3) := by decide +kernel
theorem dX13_placeOf_32 : decode cX13_placeOf 32 = .ok (.imul, 1) := by decide +kernel
theorem dX13_placeOf_33 : decode cX13_placeOf 33 = .ok (.iload_n 2, 1) := by decide +kernel
theorem dX13_placeOf_34 : decode cX13_placeOf 34 = .ok (.iadd, 1) := by decide +kernel
theorem dX13_placeOf_35 : decode cX13_placeOf 35 = .ok (.daload, 1) := by decide +kernel
theorem dX13_placeOf_36 : decode cX13_placeOf 36 = .ok (.d2i, 1) := by decide +kernel
theorem dX13_placeOf_37 : decode cX13_placeOf 37 = .ok (.goto 16, 3) := by decide +kernel
theorem dX13_placeOf_40 : decode cX13_placeOf 40 = .ok (.aload_n 0, 1) := by decide +kernel
theorem dX13_placeOf_41 : decode cX13_placeOf 41 = .ok (.iload_n 1, 1) := by decide +kernel
theorem dX13_placeOf_42 : decode cX13_placeOf 42 = .ok (.iconst 5, 1) := by decide +kernel
theorem dX13_placeOf_43 : decode cX13_placeOf 43 = .ok (.invokevirtual 381, 3) := by decide +kernel
theorem dX13_placeOf_46 : decode cX13_placeOf 46 = .ok (.aload_n 0, 1) := by decide +kernel
theorem dX13_placeOf_47 : decode cX13_placeOf 47 = .ok (.getfield 418, 3) := by decide +kernel
theorem dX13_placeOf_50 : decode cX13_placeOf 50 = .ok (.iload_n 2, 1) := by decide +kernel
theorem dX13_placeOf_51 : decode cX13_placeOf 51 = .ok (.iadd, 1) := by decide +kernel
theorem dX13_placeOf_52 : decode cX13_placeOf 52 = .ok (.imul, 1) := by decide +kernel
theorem dX13_placeOf_53 : decode cX13_placeOf 53 = .ok (.iadd, 1) := by decide +kernel
theorem dX13_placeOf_54 : decode cX13_placeOf 54 = .ok (.ireturn, 1) := by decide +kernel
def pX13_placeOf (g : MT) (h : CT) (this : Nat) (p1 : Int32) (p2 : Int32) : Option Int32 := tg g this 12 (bd (pX13_at g h this p1 0) fun x1 => (bd (pX13_at g h this p1 4) fun x3 => (if (pX13_isIndexed x1) = 0 then bd (pX13_at g h this p1 5) fun x6 => (some (x3 + (x6 * ((hI h this 33) + p2)))) else lt (hR h this 20) fun r8 => (bd (pX13_at g h this p1 3) fun x9 => (nn r8 fun a8 => (tg g a8 22 (ix (gL g a8) ((16 * x9) + p2) (some (x3 + (FP.d2i (hD h a8 (Int32.toNatClampNeg ((16 * x9) + p2)))))))))))))
set_option maxRecDepth 10000 in
set_option maxHeartbeats 4000000 in
theorem pX13_placeOf_ok (G : Gx) (dk : Nat) (hK : 1 ≤ dk) {g : MT} {h : CT} {this : Nat} {p1 : Int32} {p2 : Int32} {r0 : Int32} (hf : pX13_placeOf g h this p1 p2 = some r0) : Ctr G dk yX13_placeOf cX13_placeOf 4 (some .int) [va_rf (some this), .int p1, .int p2] g h (some (.int r0)) g h := by
  refine Ctr.ofZ (lv := [(0, va_rf (some this)), (1, .int p1), (2, .int p2)]) (by decide +kernel) (by simp [cat_i, cat_l, cat_d, cat_rf]) rfl fun X Z => ?_
  unfold pX13_placeOf at hf
  obtain ⟨t0, hf⟩ := tg_i hf
  refine J_aload_n Z.1 0 dX13_placeOf_0 rfl rfl ?_
  refine J_iload_n Z.1 1 dX13_placeOf_1 rfl rfl ?_
  refine J_iconst Z.1 (v := 0) (by decide) dX13_placeOf_2 ?_
  obtain ⟨x1, q2, hf⟩ := bd_i hf
  refine J_callV (ci := 11) (as := [.int p1, .int 0]) (rest := []) (sy := [.int x1]) Z.1 dX13_placeOf_3 cw_X13_381 (pX13_at_ok G (dk - 1) (by omega) q2) rfl rfl t0 (zG Z) rfl (by decide) (zF Z (by omega)) (zO Z (by omega) (by decide)) (zM _) Z.2.1 Z.2.1 rfl rfl ?_
  refine J_istore_n Z.1 (lv2 := [(3, .int x1), (0, va_rf (some this)), (1, .int p1), (2, .int p2)]) dX13_placeOf_6 rfl (zL Z (by decide)) rfl ?_
  refine J_aload_n Z.1 1 dX13_placeOf_7 rfl rfl ?_
  refine J_iload_n Z.1 2 dX13_placeOf_8 rfl rfl ?_
  refine J_iconst Z.1 (v := 4) (by decide) dX13_placeOf_9 ?_
  obtain ⟨x3, q4, hf⟩ := bd_i hf
  refine J_callV (ci := 11) (as := [.int p1, .int 4]) (rest := []) (sy := [.int x3]) Z.1 dX13_placeOf_10 cw_X13_381 (pX13_at_ok G (dk - 1) (by omega) q4) rfl rfl t0 (zG Z) rfl (by decide) (zF Z (by omega)) (zO Z (by omega) (by decide)) (zM _) Z.2.1 Z.2.1 rfl rfl ?_
  refine J_iload_n Z.1 0 dX13_placeOf_13 rfl rfl ?_
  refine J_callS (as := [.int x1]) (rest := [.int x3]) (sy := [.int (pX13_isIndexed x1), .int x3]) Z.1 dX13_placeOf_14 cw_X13_351 (pX13_isIndexed_ok G (dk - 1) (by omega) g h x1) (zG Z) rfl (by simp [cat_i, cat_l, cat_d, cat_rf]) (zF Z (by omega)) (zO Z (by omega) (by decide)) (zM _) Z.2.1 Z.2.1 rfl rfl ?_
  refine J_if_eq Z.1 40 dX13_placeOf_17 (by decide) (fun c5 => ?_) (fun c5 => ?_)
  · rw [if_pos c5] at hf
    refine J_aload_n Z.1 1 dX13_placeOf_40 rfl rfl ?_
    refine J_iload_n Z.1 2 dX13_placeOf_41 rfl rfl ?_
    refine J_iconst Z.1 (v := 5) (by decide) dX13_placeOf_42 ?_
    obtain ⟨x6, q7, hf⟩ := bd_i hf
    refine J_callV (ci := 11) (as := [.int p1, .int 5]) (rest := [.int x3]) (sy := [.int x6, .int x3]) Z.1 dX13_placeOf_43 cw_X13_381 (pX13_at_ok G (dk - 1) (by omega) q7) rfl rfl t0 (zG Z) rfl (by simp [cat_i, cat_l, cat_d, cat_rf]) (zF Z (by omega)) (zO Z (by omega) (by decide)) (zM _) Z.2.1 Z.2.1 rfl rfl ?_
    refine J_aload_n Z.1 1 dX13_placeOf_46 rfl rfl ?_
    refine J_get (v := .int (hI h this 33)) Z.1 dX13_placeOf_47 fl_X13_418 t0 rfl ?_
    refine J_iload_n Z.1 3 dX13_placeOf_50 rfl rfl ?_
    refine J_iadd Z.1 dX13_placeOf_51 ?_
    refine J_imul Z.1 dX13_placeOf_52 ?_
    refine J_iadd Z.1 dX13_placeOf_53 ?_
    cases hf
    exact J_iret Z.1 Z.2.2.2.2.2 dX13_placeOf_54
  · rw [if_neg c5] at hf
    refine J_aload_n Z.1 1 dX13_placeOf_20 rfl rfl ?_
    refine J_get (v := va_rf (hR h this 20)) Z.1 dX13_placeOf_21 fl_X13_34 t0 rfl ?_
    refine J_tr (fun r8 er8 => ?_)
    replace hf := lt_i hf r8 er8
    refine J_bipush Z.1 (v := 16) (by decide) dX13_placeOf_24 ?_
    refine J_aload_n Z.1 1 dX13_placeOf_26 rfl rfl ?_
    refine J_iload_n Z.1 2 dX13_placeOf_27 rfl rfl ?_
    refine J_iconst Z.1 (v := 3) (by decide) dX13_placeOf_28 ?_
    obtain ⟨x9, q10, hf⟩ := bd_i hf
    refine J_callV (ci := 11) (as := [.int p1, .int 3]) (rest := [.int 16, va_rf r8, .int x3]) (sy := [.int x9, .int 16, va_rf r8, .int x3]) Z.1 dX13_placeOf_29 cw_X13_381 (pX13_at_ok G (dk - 1) (by omega) q10) rfl rfl t0 (zG Z) rfl (by simp [cat_i, cat_l, cat_d, cat_rf]) (zF Z (by omega)) (zO Z (by omega) (by decide)) (zM _) Z.2.1 Z.2.1 rfl rfl ?_
    refine J_imul Z.1 dX13_placeOf_32 ?_
    refine J_iload_n Z.1 3 dX13_placeOf_33 rfl rfl ?_
    refine J_iadd Z.1 dX13_placeOf_34 ?_
    obtain ⟨a8, rfl, hf⟩ := nn_i hf
    obtain ⟨t11, hf⟩ := tg_i hf
    obtain ⟨i12, hf⟩ := ix_i hf
    refine J_daload Z.1 dX13_placeOf_35 t11 i12 ?_
    refine J_d2i Z.1 dX13_placeOf_36 ?_
    refine J_goto Z.1 53 dX13_placeOf_37 (by decide) ?_
    refine J_iadd Z.1 dX13_placeOf_53 ?_
    cases hf
    exact J_iret Z.1 Z.2.2.2.2.2 dX13_placeOf_54
theorem dX13_isTrapped_0 : decode cX13_isTrapped 0 = .ok (.aload_n 0, 1) := by decide +kernel
theorem dX13_isTrapped_1 : decode cX13_isTrapped 1 = .ok (.iload_n 1, 1) := by decide +kernel
theorem dX13_isTrapped_2 : decode cX13_isTrapped 2 = .ok (.iconst 0, 1) := by decide +kernel
theorem dX13_isTrapped_3 : decode cX13_isTrapped 3 = .ok (.invokevirtual 381, 3) := by decide +kernel
theorem dX13_isTrapped_6 : decode cX13_isTrapped 6 = .ok (.istore_n 3, 1) := by decide +kernel
theorem dX13_isTrapped_7 : decode cX13_isTrapped 7 = .ok (.iload_n 2, 1) := by decide +kernel
theorem dX13_isTrapped_8 : decode cX13_isTrapped 8 = .ok (.ifCond .ne 21, 3) := by decide +kernel
theorem dX13_isTrapped_11 : decode cX13_isTrapped 11 = .ok (.aload_n 0, 1) := by decide +kernel
theorem dX13_isTrapped_12 : decode cX13_isTrapped 12 = .ok (.iload_n 1, 1) := by decide +kernel
theorem dX13_isTrapped_13 : decode cX13_isTrapped 13 = .ok (.invokevirtual 421, 3) := by decide +kernel
theorem dX13_isTrapped_16 : decode cX13_isTrapped 16 = .ok (.ifCond .eq 13, 3) := by decide +kernel
theorem dX13_isTrapped_19 : decode cX13_isTrapped 19 = .ok (.aload_n 0, 1) := by decide +kernel
theorem dX13_isTrapped_20 : decode cX13_isTrapped 20 = .ok (.iconst 2, 1) := by decide +kernel
theorem dX13_isTrapped_21 : decode cX13_isTrapped 21 = .ok (.iload_n 1, 1) := by decide +kernel
theorem dX13_isTrapped_22 : decode cX13_isTrapped 22 = .ok (.iload_n 2, 1) := by decide +kernel
theorem dX13_isTrapped_23 : decode cX13_isTrapped 23 = .ok (.invokevirtual 424, 3) := by decide +kernel
theorem dX13_isTrapped_26 : decode cX13_isTrapped 26 = .ok (.goto 68, 3) := by decide +kernel
theorem dX13_isTrapped_29 : decode cX13_isTrapped 29 = .ok (.iload_n 3, 1) := by decide +kernel
theorem dX13_isTrapped_30 : decode cX13_isTrapped 30 = .ok (.invokestatic 351, 3) := by decide +kernel
theorem dX13_isTrapped_33 : decode cX13_isTrapped 33 = .ok (.ifCond .eq 35, 3) := by decide +kernel
theorem dX13_isTrapped_36 : decode cX13_isTrapped 36 = .ok (.aload_n 0, 1) := by decide +kernel
theorem dX13_isTrapped_37 : decode cX13_isTrapped 37 = .ok (.getfield 34, 3) := by decide +kernel
theorem dX13_isTrapped_40 : decode cX13_isTrapped 40 = .ok (.bipush 16, 2) := by decide +kernel
theorem dX13_isTrapped_42 : decode cX13_isTrapped 42 = .ok (.aload_n 0, 1) := by decide +kernel
theorem dX13_isTrapped_43 : decode cX13_isTrapped 43 = .ok (.iload_n 1, 1) := by decide +kernel
theorem dX13_isTrapped_44 : decode cX13_isTrapped 44 = .ok (.iconst 3, 1) := by decide +kernel
theorem dX13_isTrapped_45 : decode cX13_isTrapped 45 = .ok (.invokevirtual 381, 3) := by decide +kernel
theorem dX13_isTrapped_48 : decode cX13_isTrapped 48 = .ok (.imul, 1) := by decide +kernel
theorem dX13_isTrapped_49 : decode cX13_isTrapped 49 = .ok (.iload_n 2, 1) := by decide +kernel
theorem dX13_isTrapped_50 : decode cX13_isTrapped 50 = .ok (.iadd, 1) := by decide +kernel
theorem dX13_isTrapped_51 : decode cX13_isTrapped 51 = .ok (.daload, 1) := by decide +kernel
theorem dX13_isTrapped_52 : decode cX13_isTrapped 52 = .ok (.invokestatic 428, 3) := by decide +kernel
theorem dX13_isTrapped_55 : decode cX13_isTrapped 55 = .ok (.ifCond .ne 13, 3) := by decide +kernel
theorem dX13_isTrapped_58 : decode cX13_isTrapped 58 = .ok (.aload_n 0, 1) := by decide +kernel
theorem dX13_isTrapped_59 : decode cX13_isTrapped 59 = .ok (.iconst 3, 1) := by decide +kernel
theorem dX13_isTrapped_60 : decode cX13_isTrapped 60 = .ok (.iload_n 1, 1) := by decide +kernel
theorem dX13_isTrapped_61 : decode cX13_isTrapped 61 = .ok (.iload_n 2, 1) := by decide +kernel
theorem dX13_isTrapped_62 : decode cX13_isTrapped 62 = .ok (.invokevirtual 424, 3) := by decide +kernel
theorem dX13_isTrapped_65 : decode cX13_isTrapped 65 = .ok (.goto 29, 3) := by decide +kernel
theorem dX13_isTrapped_68 : decode cX13_isTrapped 68 = .ok (.iload_n 3, 1) := by decide +kernel
theorem dX13_isTrapped_69 : decode cX13_isTrapped 69 = .ok (.invokestatic 360, 3) := by decide +kernel
theorem dX13_isTrapped_72 : decode cX13_isTrapped 72 = .ok (.ifCond .eq 22, 3) := by decide +kernel
theorem dX13_isTrapped_75 : decode cX13_isTrapped 75 = .ok (.aload_n 0, 1) := by decide +kernel
theorem dX13_isTrapped_76 : decode cX13_isTrapped 76 = .ok (.iload_n 1, 1) := by decide +kernel
theorem dX13_isTrapped_77 : decode cX13_isTrapped 77 = .ok (.iload_n 2, 1) := by decide +kernel
theorem dX13_isTrapped_78 : decode cX13_isTrapped 78 = .ok (.invokevirtual 432, 3) := by decide +kernel
theorem dX13_isTrapped_81 : decode cX13_isTrapped 81 = .ok (.invokestatic 297, 3) := by decide +kernel
theorem dX13_isTrapped_84 : decode cX13_isTrapped 84 = .ok (.ifCond .ne 10, 3) := by decide +kernel
theorem dX13_isTrapped_87 : decode cX13_isTrapped 87 = .ok (.aload_n 0, 1) := by decide +kernel
theorem dX13_isTrapped_88 : decode cX13_isTrapped 88 = .ok (.iconst 1, 1) := by decide +kernel
theorem dX13_isTrapped_89 : decode cX13_isTrapped 89 = .ok (.iload_n 1, 1) := by decide +kernel
theorem dX13_isTrapped_90 : decode cX13_isTrapped 90 = .ok (.iload_n 2, 1) := by decide +kernel
theorem dX13_isTrapped_91 : decode cX13_isTrapped 91 = .ok (.invokevirtual 424, 3) := by decide +kernel
theorem dX13_isTrapped_94 : decode cX13_isTrapped 94 = .ok (.aload_n 0, 1) := by decide +kernel
theorem dX13_isTrapped_95 : decode cX13_isTrapped 95 = .ok (.getfield 369, 3) := by decide +kernel
theorem dX13_isTrapped_98 : decode cX13_isTrapped 98 = .ok (.ifCond .le 7, 3) := by decide +kernel
theorem dX13_isTrapped_101 : decode cX13_isTrapped 101 = .ok (.iconst 1, 1) := by decide +kernel
theorem dX13_isTrapped_102 : decode cX13_isTrapped 102 = .ok (.goto 4, 3) := by decide +kernel
theorem dX13_isTrapped_105 : decode cX13_isTrapped 105 = .ok (.iconst 0, 1) := by decide +kernel
theorem dX13_isTrapped_106 : decode cX13_isTrapped 106 = .ok (.ireturn, 1) := by decide +kernel
def pX13_isTrapped_b94 (g : MT) (this : Nat) (p1 : Int32) (p2 : Int32) (h : CT) : Option ((Int32) × CT) := if (hI h this 37) ≤ 0 then some (0, h) else some (1, h)
set_option maxRecDepth 10000 in
set_option maxHeartbeats 4000000 in
theorem pX13_isTrapped_b94_ok {X : Cx} {G : Gx} {dk : Nat} {g : MT} {r0 : Int32} {h0 : CT} {this : Nat} {p1 : Int32} {p2 : Int32} (Z : Zx X G cX13_isTrapped RX13 4 dk (some .boolean) (some (.int r0)) g h0) (hK : 3 ≤ dk) (t0 : gT g this = 12) (h : CT) (hf : pX13_isTrapped_b94 g this p1 p2 h = some (r0, h0)) : J X g h 94 [(0, va_rf (some this))] [] := by
  unfold pX13_isTrapped_b94 at hf
  refine J_aload_n Z.1 0 dX13_isTrapped_94 rfl rfl ?_
  refine J_get (v := .int (hI h this 37)) Z.1 dX13_isTrapped_95 fl_X13_369 t0 rfl ?_
  refine J_if_le Z.1 105 dX13_isTrapped_98 (by decide) (fun c1 => ?_) (fun c1 => ?_)
  · rw [if_pos c1] at hf
    refine J_iconst Z.1 (v := 0) (by decide) dX13_isTrapped_105 ?_
    cases hf
    exact J_zret Z.1 Z.2.2.2.2.2 (z_n (Or.inl rfl)) dX13_isTrapped_106
  · rw [if_neg c1] at hf
    refine J_iconst Z.1 (v := 1) (by decide) dX13_isTrapped_101 ?_
    refine J_goto Z.1 106 dX13_isTrapped_102 (by decide) ?_
    cases hf
    exact J_zret Z.1 Z.2.2.2.2.2 (z_n (Or.inr rfl)) dX13_isTrapped_106
def pX13_isTrapped_b68 (g : MT) (this : Nat) (p1 : Int32) (p2 : Int32) (l3 : Int32) (h : CT) : Option ((Int32) × CT) := if (pX13_isMemory l3) = 0 then pX13_isTrapped_b94 g this p1 p2  h else bd (pX13_placeOf g h this p1 p2) fun x2 => (if (pX13_isWordAt x2) = 0 then bd (pX13_traps g h this 1 p1 p2) fun h5 => (pX13_isTrapped_b94 g this p1 p2  h5) else pX13_isTrapped_b94 g this p1 p2  h)
set_option maxRecDepth 10000 in
set_option maxHeartbeats 4000000 in
theorem pX13_isTrapped_b68_ok {X : Cx} {G : Gx} {dk : Nat} {g : MT} {r0 : Int32} {h0 : CT} {this : Nat} {p1 : Int32} {p2 : Int32} (Z : Zx X G cX13_isTrapped RX13 4 dk (some .boolean) (some (.int r0)) g h0) (hK : 3 ≤ dk) (t0 : gT g this = 12) (l3 : Int32) (h : CT) (hf : pX13_isTrapped_b68 g this p1 p2 l3 h = some (r0, h0)) : J X g h 68 [(0, va_rf (some this)), (1, .int p1), (2, .int p2), (3, .int l3)] [] := by
  unfold pX13_isTrapped_b68 at hf
  refine J_iload_n Z.1 3 dX13_isTrapped_68 rfl rfl ?_
  refine J_callS (as := [.int l3]) (rest := []) (sy := [.int (pX13_isMemory l3)]) Z.1 dX13_isTrapped_69 cw_X13_360 (pX13_isMemory_ok G (dk - 1) (by omega) g h l3) (zG Z) rfl (by decide) (zF Z (by omega)) (zO Z (by omega) (by decide)) (zM _) Z.2.1 Z.2.1 rfl rfl ?_
  refine J_if_eq Z.1 94 dX13_isTrapped_72 (by decide) (fun c1 => ?_) (fun c1 => ?_)
  · rw [if_pos c1] at hf
    refine J_lv [0] rfl ?_
    exact pX13_isTrapped_b94_ok Z hK t0  _ hf
  · rw [if_neg c1] at hf
    refine J_aload_n Z.1 0 dX13_isTrapped_75 rfl rfl ?_
    refine J_iload_n Z.1 1 dX13_isTrapped_76 rfl rfl ?_
    refine J_iload_n Z.1 2 dX13_isTrapped_77 rfl rfl ?_
    obtain ⟨x2, q3, hf⟩ := bd_i hf
    refine J_callV (ci := 11) (as := [.int p1, .int p2]) (rest := []) (sy := [.int x2]) Z.1 dX13_isTrapped_78 cw_X13_432 (pX13_placeOf_ok G (dk - 1) (by omega) q3) rfl rfl t0 (zG Z) rfl (by decide) (zF Z (by omega)) (zO Z (by omega) (by decide)) (zM _) Z.2.1 Z.2.1 rfl rfl ?_
    refine J_callS (as := [.int x2]) (rest := []) (sy := [.int (pX13_isWordAt x2)]) Z.1 dX13_isTrapped_81 cw_X13_297 (pX13_isWordAt_ok G (dk - 1) (by omega) g h x2) (zG Z) rfl (by decide) (zF Z (by omega)) (zO Z (by omega) (by decide)) (zM _) Z.2.1 Z.2.1 rfl rfl ?_
    refine J_if_ne Z.1 94 dX13_isTrapped_84 (by decide) (fun c4 => ?_) (fun c4 => ?_)
    · rw [if_neg c4] at hf
      refine J_lv [0] rfl ?_
      exact pX13_isTrapped_b94_ok Z hK t0  _ hf
    · rw [if_pos c4] at hf
      refine J_aload_n Z.1 0 dX13_isTrapped_87 rfl rfl ?_
      refine J_iconst Z.1 (v := 1) (by decide) dX13_isTrapped_88 ?_
      refine J_iload_n Z.1 1 dX13_isTrapped_89 rfl rfl ?_
      refine J_iload_n Z.1 2 dX13_isTrapped_90 rfl rfl ?_
      obtain ⟨h5, q6, hf⟩ := bd_i hf
      refine J_callV (ci := 11) (as := [.int 1, .int p1, .int p2]) (rest := []) (sy := []) Z.1 dX13_isTrapped_91 cw_X13_424 (pX13_traps_ok G (dk - 1) (by omega) q6) rfl rfl t0 (zG Z) rfl (by decide) (zF Z (by omega)) (zO Z (by omega) (by decide)) (zM _) Z.2.1 Z.2.1 rfl rfl ?_
      refine J_lv [0] rfl ?_
      exact pX13_isTrapped_b94_ok Z hK t0  _ hf
def pX13_isTrapped_b29 (g : MT) (this : Nat) (p1 : Int32) (p2 : Int32) (l3 : Int32) (h : CT) : Option ((Int32) × CT) := if (pX13_isIndexed l3) = 0 then pX13_isTrapped_b68 g this p1 p2  l3 h else lt (hR h this 20) fun r2 => (bd (pX13_at g h this p1 3) fun x3 => (nn r2 fun a2 => (tg g a2 22 (ix (gL g a2) ((16 * x3) + p2) (if (pX13_isIndex (hD h a2 (Int32.toNatClampNeg ((16 * x3) + p2)))) = 0 then bd (pX13_traps g h this 3 p1 p2) fun h8 => (pX13_isTrapped_b94 g this p1 p2  h8) else pX13_isTrapped_b68 g this p1 p2  l3 h)))))
set_option maxRecDepth 10000 in
set_option maxHeartbeats 4000000 in
theorem pX13_isTrapped_b29_ok {X : Cx} {G : Gx} {dk : Nat} {g : MT} {r0 : Int32} {h0 : CT} {this : Nat} {p1 : Int32} {p2 : Int32} (Z : Zx X G cX13_isTrapped RX13 4 dk (some .boolean) (some (.int r0)) g h0) (hK : 3 ≤ dk) (t0 : gT g this = 12) (l3 : Int32) (h : CT) (hf : pX13_isTrapped_b29 g this p1 p2 l3 h = some (r0, h0)) : J X g h 29 [(0, va_rf (some this)), (1, .int p1), (2, .int p2), (3, .int l3)] [] := by
  unfold pX13_isTrapped_b29 at hf
  refine J_iload_n Z.1 3 dX13_isTrapped_29 rfl rfl ?_
  refine J_callS (as := [.int l3]) (rest := []) (sy := [.int (pX13_isIndexed l3)]) Z.1 dX13_isTrapped_30 cw_X13_351 (pX13_isIndexed_ok G (dk - 1) (by omega) g h l3) (zG Z) rfl (by decide) (zF Z (by omega)) (zO Z (by omega) (by decide)) (zM _) Z.2.1 Z.2.1 rfl rfl ?_
  refine J_if_eq Z.1 68 dX13_isTrapped_33 (by decide) (fun c1 => ?_) (fun c1 => ?_)
  · rw [if_pos c1] at hf
    exact pX13_isTrapped_b68_ok Z hK t0  _ _ hf
  · rw [if_neg c1] at hf
    refine J_aload_n Z.1 0 dX13_isTrapped_36 rfl rfl ?_
    refine J_get (v := va_rf (hR h this 20)) Z.1 dX13_isTrapped_37 fl_X13_34 t0 rfl ?_
    refine J_tr (fun r2 er2 => ?_)
    replace hf := lt_i hf r2 er2
    refine J_bipush Z.1 (v := 16) (by decide) dX13_isTrapped_40 ?_
    refine J_aload_n Z.1 0 dX13_isTrapped_42 rfl rfl ?_
    refine J_iload_n Z.1 1 dX13_isTrapped_43 rfl rfl ?_
    refine J_iconst Z.1 (v := 3) (by decide) dX13_isTrapped_44 ?_
    obtain ⟨x3, q4, hf⟩ := bd_i hf
    refine J_callV (ci := 11) (as := [.int p1, .int 3]) (rest := [.int 16, va_rf r2]) (sy := [.int x3, .int 16, va_rf r2]) Z.1 dX13_isTrapped_45 cw_X13_381 (pX13_at_ok G (dk - 1) (by omega) q4) rfl rfl t0 (zG Z) rfl (by simp [cat_i, cat_l, cat_d, cat_rf]) (zF Z (by omega)) (zO Z (by omega) (by decide)) (zM _) Z.2.1 Z.2.1 rfl rfl ?_
    refine J_imul Z.1 dX13_isTrapped_48 ?_
    refine J_iload_n Z.1 2 dX13_isTrapped_49 rfl rfl ?_
    refine J_iadd Z.1 dX13_isTrapped_50 ?_
    obtain ⟨a2, rfl, hf⟩ := nn_i hf
    obtain ⟨t5, hf⟩ := tg_i hf
    obtain ⟨i6, hf⟩ := ix_i hf
    refine J_daload Z.1 dX13_isTrapped_51 t5 i6 ?_
    refine J_callS (as := [.double (hD h a2 (Int32.toNatClampNeg ((16 * x3) + p2)))]) (rest := []) (sy := [.int (pX13_isIndex (hD h a2 (Int32.toNatClampNeg ((16 * x3) + p2))))]) Z.1 dX13_isTrapped_52 cw_X13_428 (pX13_isIndex_ok G (dk - 1) (by omega) g h (hD h a2 (Int32.toNatClampNeg ((16 * x3) + p2)))) (zG Z) rfl (by decide) (zF Z (by omega)) (zO Z (by omega) (by decide)) (zM _) Z.2.1 Z.2.1 rfl rfl ?_
    refine J_if_ne Z.1 68 dX13_isTrapped_55 (by decide) (fun c7 => ?_) (fun c7 => ?_)
    · rw [if_neg c7] at hf
      exact pX13_isTrapped_b68_ok Z hK t0  _ _ hf
    · rw [if_pos c7] at hf
      refine J_aload_n Z.1 0 dX13_isTrapped_58 rfl rfl ?_
      refine J_iconst Z.1 (v := 3) (by decide) dX13_isTrapped_59 ?_
      refine J_iload_n Z.1 1 dX13_isTrapped_60 rfl rfl ?_
      refine J_iload_n Z.1 2 dX13_isTrapped_61 rfl rfl ?_
      obtain ⟨h8, q9, hf⟩ := bd_i hf
      refine J_callV (ci := 11) (as := [.int 3, .int p1, .int p2]) (rest := []) (sy := []) Z.1 dX13_isTrapped_62 cw_X13_424 (pX13_traps_ok G (dk - 1) (by omega) q9) rfl rfl t0 (zG Z) rfl (by decide) (zF Z (by omega)) (zO Z (by omega) (by decide)) (zM _) Z.2.1 Z.2.1 rfl rfl ?_
      refine J_goto Z.1 94 dX13_isTrapped_65 (by decide) ?_
      refine J_lv [0] rfl ?_
      exact pX13_isTrapped_b94_ok Z hK t0  _ hf
def pX13_isTrapped (g : MT) (h : CT) (this : Nat) (p1 : Int32) (p2 : Int32) : Option ((Int32) × CT) := tg g this 12 (bd (pX13_at g h this p1 0) fun x1 => (if p2 = 0 then bd (pX13_missesRow g h this p1) fun x4 => (if x4 = 0 then pX13_isTrapped_b29 g this p1 p2  x1 h else bd (pX13_traps g h this 2 p1 p2) fun h7 => (pX13_isTrapped_b94 g this p1 p2  h7)) else pX13_isTrapped_b29 g this p1 p2  x1 h))
set_option maxRecDepth 10000 in
set_option maxHeartbeats 4000000 in
theorem pX13_isTrapped_ok (G : Gx) (dk : Nat) (hK : 3 ≤ dk) {g : MT} {h h0 : CT} {this : Nat} {p1 : Int32} {p2 : Int32} {r0 : Int32} (hf : pX13_isTrapped g h this p1 p2 = some (r0, h0)) : Ctr G dk yX13_isTrapped cX13_isTrapped 4 (some .boolean) [va_rf (some this), .int p1, .int p2] g h (some (.int r0)) g h0 := by
  refine Ctr.ofZ (lv := [(0, va_rf (some this)), (1, .int p1), (2, .int p2)]) (by decide +kernel) (by simp [cat_i, cat_l, cat_d, cat_rf]) rfl fun X Z => ?_
  unfold pX13_isTrapped at hf
  obtain ⟨t0, hf⟩ := tg_i hf
  refine J_aload_n Z.1 0 dX13_isTrapped_0 rfl rfl ?_
  refine J_iload_n Z.1 1 dX13_isTrapped_1 rfl rfl ?_
  refine J_iconst Z.1 (v := 0) (by decide) dX13_isTrapped_2 ?_
  obtain ⟨x1, q2, hf⟩ := bd_i hf
  refine J_callV (ci := 11) (as := [.int p1, .int 0]) (rest := []) (sy := [.int x1]) Z.1 dX13_isTrapped_3 cw_X13_381 (pX13_at_ok G (dk - 1) (by omega) q2) rfl rfl t0 (zG Z) rfl (by decide) (zF Z (by omega)) (zO Z (by omega) (by decide)) (zM _) Z.2.1 Z.2.1 rfl rfl ?_
  refine J_istore_n Z.1 (lv2 := [(3, .int x1), (0, va_rf (some this)), (1, .int p1), (2, .int p2)]) dX13_isTrapped_6 rfl (zL Z (by decide)) rfl ?_
  refine J_iload_n Z.1 3 dX13_isTrapped_7 rfl rfl ?_
  refine J_if_ne Z.1 29 dX13_isTrapped_8 (by decide) (fun c3 => ?_) (fun c3 => ?_)
  · rw [if_neg c3] at hf
    refine J_lv [1, 2, 3, 0] rfl ?_
    exact pX13_isTrapped_b29_ok Z hK t0  _ _ hf
  · rw [if_pos c3] at hf
    refine J_aload_n Z.1 1 dX13_isTrapped_11 rfl rfl ?_
    refine J_iload_n Z.1 2 dX13_isTrapped_12 rfl rfl ?_
    obtain ⟨x4, q5, hf⟩ := bd_i hf
    refine J_callV (ci := 11) (as := [.int p1]) (rest := []) (sy := [.int x4]) Z.1 dX13_isTrapped_13 cw_X13_421 (pX13_missesRow_ok G (dk - 1) (by omega) q5) rfl rfl t0 (zG Z) rfl (by decide) (zF Z (by omega)) (zO Z (by omega) (by decide)) (zM _) Z.2.1 Z.2.1 rfl rfl ?_
    refine J_if_eq Z.1 29 dX13_isTrapped_16 (by decide) (fun c6 => ?_) (fun c6 => ?_)
    · rw [if_pos c6] at hf
      refine J_lv [1, 2, 3, 0] rfl ?_
      exact pX13_isTrapped_b29_ok Z hK t0  _ _ hf
    · rw [if_neg c6] at hf
      refine J_aload_n Z.1 1 dX13_isTrapped_19 rfl rfl ?_
      refine J_iconst Z.1 (v := 2) (by decide) dX13_isTrapped_20 ?_
      refine J_iload_n Z.1 2 dX13_isTrapped_21 rfl rfl ?_
      refine J_iload_n Z.1 3 dX13_isTrapped_22 rfl rfl ?_
      obtain ⟨h7, q8, hf⟩ := bd_i hf
      refine J_callV (ci := 11) (as := [.int 2, .int p1, .int p2]) (rest := []) (sy := []) Z.1 dX13_isTrapped_23 cw_X13_424 (pX13_traps_ok G (dk - 1) (by omega) q8) rfl rfl t0 (zG Z) rfl (by decide) (zF Z (by omega)) (zO Z (by omega) (by decide)) (zM _) Z.2.1 Z.2.1 rfl rfl ?_
      refine J_goto Z.1 94 dX13_isTrapped_26 (by decide) ?_
      refine J_lv [1] rfl ?_
      exact pX13_isTrapped_b94_ok Z hK t0  _ hf
theorem dX13_waitsFor_0 : decode cX13_waitsFor 0 = .ok (.iload_n 3, 1) := by decide +kernel
theorem dX13_waitsFor_1 : decode cX13_waitsFor 1 = .ok (.aload_n 0, 1) := by decide +kernel
theorem dX13_waitsFor_2 : decode cX13_waitsFor 2 = .ok (.getfield 38, 3) := by decide +kernel
theorem dX13_waitsFor_5 : decode cX13_waitsFor 5 = .ok (.bipush 16, 2) := by decide +kernel
theorem dX13_waitsFor_7 : decode cX13_waitsFor 7 = .ok (.iload_n 1, 1) := by decide +kernel
theorem dX13_waitsFor_8 : decode cX13_waitsFor 8 = .ok (.imul, 1) := by decide +kernel
theorem dX13_waitsFor_9 : decode cX13_waitsFor 9 = .ok (.iload_n 2, 1) := by decide +kernel
theorem dX13_waitsFor_10 : decode cX13_waitsFor 10 = .ok (.iadd, 1) := by decide +kernel
theorem dX13_waitsFor_11 : decode cX13_waitsFor 11 = .ok (.iaload, 1) := by decide +kernel
theorem dX13_waitsFor_12 : decode cX13_waitsFor 12 = .ok (.invokestatic 178, 3) := by decide +kernel
theorem dX13_waitsFor_15 : decode cX13_waitsFor 15 = .ok (.ireturn, 1) := by decide +kernel
def pX13_waitsFor (g : MT) (h : CT) (this : Nat) (p1 : Int32) (p2 : Int32) (p3 : Int32) : Option Int32 := tg g this 12 (lt (hR h this 23) fun r1 => (nn r1 fun a1 => (tg g a1 20 (ix (gL g a1) ((16 * p1) + p2) (some (pJ9_max_7cf53 p3 (hI h a1 (Int32.toNatClampNeg ((16 * p1) + p2)))))))))
set_option maxRecDepth 10000 in
set_option maxHeartbeats 4000000 in
theorem pX13_waitsFor_ok (G : Gx) (dk : Nat) (hK : 1 ≤ dk) {g : MT} {h : CT} {this : Nat} {p1 : Int32} {p2 : Int32} {p3 : Int32} {r0 : Int32} (hf : pX13_waitsFor g h this p1 p2 p3 = some r0) : Ctr G dk yX13_waitsFor cX13_waitsFor 4 (some .int) [va_rf (some this), .int p1, .int p2, .int p3] g h (some (.int r0)) g h := by
  refine Ctr.ofZ (lv := [(0, va_rf (some this)), (1, .int p1), (2, .int p2), (3, .int p3)]) (by decide +kernel) (by simp [cat_i, cat_l, cat_d, cat_rf]) rfl fun X Z => ?_
  unfold pX13_waitsFor at hf
  obtain ⟨t0, hf⟩ := tg_i hf
  refine J_iload_n Z.1 3 dX13_waitsFor_0 rfl rfl ?_
  refine J_aload_n Z.1 0 dX13_waitsFor_1 rfl rfl ?_
  refine J_get (v := va_rf (hR h this 23)) Z.1 dX13_waitsFor_2 fl_X13_38 t0 rfl ?_
  refine J_tr (fun r1 er1 => ?_)
  replace hf := lt_i hf r1 er1
  refine J_bipush Z.1 (v := 16) (by decide) dX13_waitsFor_5 ?_
  refine J_iload_n Z.1 1 dX13_waitsFor_7 rfl rfl ?_
  refine J_imul Z.1 dX13_waitsFor_8 ?_
  refine J_iload_n Z.1 2 dX13_waitsFor_9 rfl rfl ?_
  refine J_iadd Z.1 dX13_waitsFor_10 ?_
  obtain ⟨a1, rfl, hf⟩ := nn_i hf
  obtain ⟨t2, hf⟩ := tg_i hf
  obtain ⟨i3, hf⟩ := ix_i hf
  refine J_iaload Z.1 dX13_waitsFor_11 t2 i3 ?_
  refine J_callS (as := [.int p3, .int (hI h a1 (Int32.toNatClampNeg ((16 * p1) + p2)))]) (rest := []) (sy := [.int (pJ9_max_7cf53 p3 (hI h a1 (Int32.toNatClampNeg ((16 * p1) + p2))))]) Z.1 dX13_waitsFor_12 cw_X13_178 (pJ9_max_7cf53_ok G (dk - 1) (by omega) g h p3 (hI h a1 (Int32.toNatClampNeg ((16 * p1) + p2)))) (zG Z) rfl (by decide) (zF Z (by omega)) (zO Z (by omega) (by decide)) (zM _) Z.2.1 Z.2.1 rfl rfl ?_
  cases hf
  exact J_iret Z.1 Z.2.2.2.2.2 dX13_waitsFor_15
