/-! written by wip/whole/gen.py out of the printed bytecode -/
theorem dX13_isEndBehind_0 : decode cX13_isEndBehind 0 = .ok (.iconst 0, 1) := by decide +kernel
theorem dX13_isEndBehind_1 : decode cX13_isEndBehind 1 = .ok (.istore_n 2, 1) := by decide +kernel
theorem dX13_isEndBehind_2 : decode cX13_isEndBehind 2 = .ok (.iload_n 2, 1) := by decide +kernel
theorem dX13_isEndBehind_3 : decode cX13_isEndBehind 3 = .ok (.iload_n 1, 1) := by decide +kernel
theorem dX13_isEndBehind_4 : decode cX13_isEndBehind 4 = .ok (.if_icmp .gt 35, 3) := by decide +kernel
theorem dX13_isEndBehind_7 : decode cX13_isEndBehind 7 = .ok (.aload_n 0, 1) := by decide +kernel
theorem dX13_isEndBehind_8 : decode cX13_isEndBehind 8 = .ok (.iload_n 2, 1) := by decide +kernel
theorem dX13_isEndBehind_9 : decode cX13_isEndBehind 9 = .ok (.iconst 0, 1) := by decide +kernel
theorem dX13_isEndBehind_10 : decode cX13_isEndBehind 10 = .ok (.invokevirtual 381, 3) := by decide +kernel
theorem dX13_isEndBehind_13 : decode cX13_isEndBehind 13 = .ok (.bipush 25, 2) := by decide +kernel
theorem dX13_isEndBehind_15 : decode cX13_isEndBehind 15 = .ok (.if_icmp .ne 18, 3) := by decide +kernel
theorem dX13_isEndBehind_18 : decode cX13_isEndBehind 18 = .ok (.aload_n 0, 1) := by decide +kernel
theorem dX13_isEndBehind_19 : decode cX13_isEndBehind 19 = .ok (.iload_n 2, 1) := by decide +kernel
theorem dX13_isEndBehind_20 : decode cX13_isEndBehind 20 = .ok (.bipush 7, 2) := by decide +kernel
theorem dX13_isEndBehind_22 : decode cX13_isEndBehind 22 = .ok (.invokevirtual 381, 3) := by decide +kernel
theorem dX13_isEndBehind_25 : decode cX13_isEndBehind 25 = .ok (.iload_n 1, 1) := by decide +kernel
theorem dX13_isEndBehind_26 : decode cX13_isEndBehind 26 = .ok (.iconst 1, 1) := by decide +kernel
theorem dX13_isEndBehind_27 : decode cX13_isEndBehind 27 = .ok (.iadd, 1) := by decide +kernel
theorem dX13_isEndBehind_28 : decode cX13_isEndBehind 28 = .ok (.if_icmp .ne 5, 3) := by decide +kernel
theorem dX13_isEndBehind_31 : decode cX13_isEndBehind 31 = .ok (.iconst 1, 1) := by decide +kernel
theorem dX13_isEndBehind_32 : decode cX13_isEndBehind 32 = .ok (.ireturn, 1) := by decide +kernel
theorem dX13_isEndBehind_33 : decode cX13_isEndBehind 33 = .ok (.iinc 2 1, 3) := by decide +kernel
theorem dX13_isEndBehind_36 : decode cX13_isEndBehind 36 = .ok (.goto (-34), 3) := by decide +kernel
theorem dX13_isEndBehind_39 : decode cX13_isEndBehind 39 = .ok (.iconst 0, 1) := by decide +kernel
theorem dX13_isEndBehind_40 : decode cX13_isEndBehind 40 = .ok (.ireturn, 1) := by decide +kernel
def pX13_isEndBehind_b33 (g : MT) (h : CT) (this : Nat) (p1 : Int32) (k2 : Int32 → Option Int32) (l2 : Int32) : Option Int32 := lt (l2 + 1) fun x1 => (k2 x1)
set_option maxRecDepth 10000 in
set_option maxHeartbeats 4000000 in
theorem pX13_isEndBehind_b33_ok {X : Cx} {G : Gx} {dk : Nat} {g : MT} {r0 : Int32} {h : CT} {this : Nat} {p1 : Int32} {k2 : Int32 → Option Int32} (Z : Zx X G cX13_isEndBehind RX13 3 dk (some .boolean) (some (.int r0)) g h) (hK : 1 ≤ dk) (t0 : gT g this = 12) (hk2 : ∀ (l2 : Int32), k2 l2 = some r0 → J X g h 2 [(0, va_rf (some this)), (1, .int p1), (2, .int l2)] []) (l2 : Int32) (hf : pX13_isEndBehind_b33 g h this p1 k2 l2 = some r0) : J X g h 33 [(0, va_rf (some this)), (1, .int p1), (2, .int l2)] [] := by
  unfold pX13_isEndBehind_b33 at hf
  refine J_iinc Z.1 (v := 1) (lv2 := [(2, .int (l2 + 1)), (0, va_rf (some this)), (1, .int p1)]) 2 dX13_isEndBehind_33 rfl (by decide) (zL Z (by decide)) rfl ?_
  obtain ⟨x1, ex1⟩ : ∃ z, z = (l2 + 1) := ⟨_, rfl⟩
  replace hf := lt_i hf x1 ex1
  rw [← ex1]
  refine J_goto Z.1 2 dX13_isEndBehind_36 (by decide) ?_
  refine J_lv [1, 2, 0] rfl ?_
  exact hk2 _ hf
def pX13_isEndBehind_b2 (g : MT) (h : CT) (this : Nat) (p1 : Int32) (k2 : Int32 → Option Int32) (l2 : Int32) : Option Int32 := if p1 < l2 then some 0 else bd (pX13_at g h this l2 0) fun x2 => (if x2 = 25 then bd (pX13_at g h this l2 7) fun x5 => (if x5 = (p1 + 1) then some 1 else pX13_isEndBehind_b33 g h this p1 k2 l2) else pX13_isEndBehind_b33 g h this p1 k2 l2)
set_option maxRecDepth 10000 in
set_option maxHeartbeats 4000000 in
theorem pX13_isEndBehind_b2_ok {X : Cx} {G : Gx} {dk : Nat} {g : MT} {r0 : Int32} {h : CT} {this : Nat} {p1 : Int32} {k2 : Int32 → Option Int32} (Z : Zx X G cX13_isEndBehind RX13 3 dk (some .boolean) (some (.int r0)) g h) (hK : 1 ≤ dk) (t0 : gT g this = 12) (hk2 : ∀ (l2 : Int32), k2 l2 = some r0 → J X g h 2 [(0, va_rf (some this)), (1, .int p1), (2, .int l2)] []) (l2 : Int32) (hf : pX13_isEndBehind_b2 g h this p1 k2 l2 = some r0) : J X g h 2 [(0, va_rf (some this)), (1, .int p1), (2, .int l2)] [] := by
  unfold pX13_isEndBehind_b2 at hf
  refine J_iload_n Z.1 2 dX13_isEndBehind_2 rfl rfl ?_
  refine J_iload_n Z.1 1 dX13_isEndBehind_3 rfl rfl ?_
  refine J_icmp_gt Z.1 39 dX13_isEndBehind_4 (by decide) (fun c1 => ?_) (fun c1 => ?_)
  · rw [if_pos c1] at hf
    refine J_iconst Z.1 (v := 0) (by decide) dX13_isEndBehind_39 ?_
    cases hf
    exact J_zret Z.1 Z.2.2.2.2.2 (z_n (Or.inl rfl)) dX13_isEndBehind_40
  · rw [if_neg c1] at hf
    refine J_aload_n Z.1 0 dX13_isEndBehind_7 rfl rfl ?_
    refine J_iload_n Z.1 2 dX13_isEndBehind_8 rfl rfl ?_
    refine J_iconst Z.1 (v := 0) (by decide) dX13_isEndBehind_9 ?_
    obtain ⟨x2, q3, hf⟩ := bd_i hf
    refine J_callV (ci := 11) (as := [.int l2, .int 0]) (rest := []) (sy := [.int x2]) Z.1 dX13_isEndBehind_10 cw_X13_381 (pX13_at_ok G (dk - 1) (by omega) q3) rfl rfl t0 (zG Z) rfl (by decide) (zF Z (by omega)) (zO Z (by omega) (by decide)) (zM g) Z.2.1 Z.2.1 rfl rfl ?_
    refine J_bipush Z.1 (v := 25) (by decide) dX13_isEndBehind_13 ?_
    refine J_icmp_ne Z.1 33 dX13_isEndBehind_15 (by decide) (fun c4 => ?_) (fun c4 => ?_)
    · rw [if_neg c4] at hf
      exact pX13_isEndBehind_b33_ok Z hK t0 hk2 _ hf
    · rw [if_pos c4] at hf
      refine J_aload_n Z.1 0 dX13_isEndBehind_18 rfl rfl ?_
      refine J_iload_n Z.1 2 dX13_isEndBehind_19 rfl rfl ?_
      refine J_bipush Z.1 (v := 7) (by decide) dX13_isEndBehind_20 ?_
      obtain ⟨x5, q6, hf⟩ := bd_i hf
      refine J_callV (ci := 11) (as := [.int l2, .int 7]) (rest := []) (sy := [.int x5]) Z.1 dX13_isEndBehind_22 cw_X13_381 (pX13_at_ok G (dk - 1) (by omega) q6) rfl rfl t0 (zG Z) rfl (by decide) (zF Z (by omega)) (zO Z (by omega) (by decide)) (zM g) Z.2.1 Z.2.1 rfl rfl ?_
      refine J_iload_n Z.1 1 dX13_isEndBehind_25 rfl rfl ?_
      refine J_iconst Z.1 (v := 1) (by decide) dX13_isEndBehind_26 ?_
      refine J_iadd Z.1 dX13_isEndBehind_27 ?_
      refine J_icmp_ne Z.1 33 dX13_isEndBehind_28 (by decide) (fun c7 => ?_) (fun c7 => ?_)
      · rw [if_neg c7] at hf
        exact pX13_isEndBehind_b33_ok Z hK t0 hk2 _ hf
      · rw [if_pos c7] at hf
        refine J_iconst Z.1 (v := 1) (by decide) dX13_isEndBehind_31 ?_
        cases hf
        exact J_zret Z.1 Z.2.2.2.2.2 (z_n (Or.inr rfl)) dX13_isEndBehind_32
def pX13_isEndBehind_l2 (g : MT) (h : CT) (this : Nat) (p1 : Int32) : Nat → Int32 → Option Int32
  | 0, _ => none
  | n + 1, l2 => pX13_isEndBehind_b2 g h this p1 (pX13_isEndBehind_l2 g h this p1 n) l2
theorem pX13_isEndBehind_l2_ok {X : Cx} {G : Gx} {dk : Nat} {g : MT} {r0 : Int32} {h : CT} {this : Nat} {p1 : Int32} (Z : Zx X G cX13_isEndBehind RX13 3 dk (some .boolean) (some (.int r0)) g h) (hK : 1 ≤ dk) (t0 : gT g this = 12) : ∀ (n : Nat) (l2 : Int32), pX13_isEndBehind_l2 g h this p1 n l2 = some r0 → J X g h 2 [(0, va_rf (some this)), (1, .int p1), (2, .int l2)] [] := by
  intro n
  induction n with
  | zero => intro l2 hf; cases hf
  | succ n ih => intro l2 hf; exact pX13_isEndBehind_b2_ok Z hK t0 ih l2 hf
def pX13_isEndBehind (g : MT) (h : CT) (this : Nat) (p1 : Int32) : Option Int32 := tg g this 12 (pX13_isEndBehind_l2 g h this p1  FUEL 0)
set_option maxRecDepth 10000 in
set_option maxHeartbeats 4000000 in
theorem pX13_isEndBehind_ok (G : Gx) (dk : Nat) (hK : 1 ≤ dk) {g : MT} {h : CT} {this : Nat} {p1 : Int32} {r0 : Int32} (hf : pX13_isEndBehind g h this p1 = some r0) : Ctr G dk yX13_isEndBehind cX13_isEndBehind 3 (some .boolean) [va_rf (some this), .int p1] g h (some (.int r0)) g h := by
  refine Ctr.ofZ (lv := [(0, va_rf (some this)), (1, .int p1)]) (by decide +kernel) (by simp [cat_i, cat_l, cat_d, cat_rf]) rfl fun X Z => ?_
  unfold pX13_isEndBehind at hf
  obtain ⟨t0, hf⟩ := tg_i hf
  refine J_iconst Z.1 (v := 0) (by decide) dX13_isEndBehind_0 ?_
  refine J_istore_n Z.1 (lv2 := [(2, .int 0), (0, va_rf (some this)), (1, .int p1)]) dX13_isEndBehind_1 rfl (zL Z (by decide)) rfl ?_
  refine J_lv [1, 2, 0] rfl ?_
  exact pX13_isEndBehind_l2_ok Z hK t0  FUEL _ hf
theorem dX13_whyNoSwap_0 : decode cX13_whyNoSwap 0 = .ok (.aload_n 0, 1) := by decide +kernel
theorem dX13_whyNoSwap_1 : decode cX13_whyNoSwap 1 = .ok (.iload_n 1, 1) := by decide +kernel
theorem dX13_whyNoSwap_2 : decode cX13_whyNoSwap 2 = .ok (.invokevirtual 544, 3) := by decide +kernel
theorem dX13_whyNoSwap_5 : decode cX13_whyNoSwap 5 = .ok (.ifCond .eq 13, 3) := by decide +kernel
theorem dX13_whyNoSwap_8 : decode cX13_whyNoSwap 8 = .ok (.aload_n 0, 1) := by decide +kernel
theorem dX13_whyNoSwap_9 : decode cX13_whyNoSwap 9 = .ok (.iload_n 1, 1) := by decide +kernel
theorem dX13_whyNoSwap_10 : decode cX13_whyNoSwap 10 = .ok (.iconst 1, 1) := by decide +kernel
theorem dX13_whyNoSwap_11 : decode cX13_whyNoSwap 11 = .ok (.iadd, 1) := by decide +kernel
theorem dX13_whyNoSwap_12 : decode cX13_whyNoSwap 12 = .ok (.invokevirtual 544, 3) := by decide +kernel
theorem dX13_whyNoSwap_15 : decode cX13_whyNoSwap 15 = .ok (.ifCond .ne 5, 3) := by decide +kernel
theorem dX13_whyNoSwap_18 : decode cX13_whyNoSwap 18 = .ok (.iconst 2, 1) := by decide +kernel
theorem dX13_whyNoSwap_19 : decode cX13_whyNoSwap 19 = .ok (.ireturn, 1) := by decide +kernel
theorem dX13_whyNoSwap_20 : decode cX13_whyNoSwap 20 = .ok (.aload_n 0, 1) := by decide +kernel
theorem dX13_whyNoSwap_21 : decode cX13_whyNoSwap 21 = .ok (.iload_n 1, 1) := by decide +kernel
theorem dX13_whyNoSwap_22 : decode cX13_whyNoSwap 22 = .ok (.iload_n 1, 1) := by decide +kernel
theorem dX13_whyNoSwap_23 : decode cX13_whyNoSwap 23 = .ok (.iconst 1, 1) := by decide +kernel
theorem dX13_whyNoSwap_24 : decode cX13_whyNoSwap 24 = .ok (.iadd, 1) := by decide +kernel
theorem dX13_whyNoSwap_25 : decode cX13_whyNoSwap 25 = .ok (.invokevirtual 583, 3) := by decide +kernel
theorem dX13_whyNoSwap_28 : decode cX13_whyNoSwap 28 = .ok (.ifCond .ne 11, 3) := by decide +kernel
theorem dX13_whyNoSwap_31 : decode cX13_whyNoSwap 31 = .ok (.aload_n 0, 1) := by decide +kernel
theorem dX13_whyNoSwap_32 : decode cX13_whyNoSwap 32 = .ok (.iload_n 1, 1) := by decide +kernel
theorem dX13_whyNoSwap_33 : decode cX13_whyNoSwap 33 = .ok (.invokevirtual 586, 3) := by decide +kernel
theorem dX13_whyNoSwap_36 : decode cX13_whyNoSwap 36 = .ok (.ifCond .eq 8, 3) := by decide +kernel
theorem dX13_whyNoSwap_39 : decode cX13_whyNoSwap 39 = .ok (.bipush 9, 2) := by decide +kernel
theorem dX13_whyNoSwap_41 : decode cX13_whyNoSwap 41 = .ok (.goto 4, 3) := by decide +kernel
theorem dX13_whyNoSwap_44 : decode cX13_whyNoSwap 44 = .ok (.iconst 0, 1) := by decide +kernel
theorem dX13_whyNoSwap_45 : decode cX13_whyNoSwap 45 = .ok (.ireturn, 1) := by decide +kernel
def pX13_whyNoSwap_b39 (g : MT) (h : CT) (this : Nat) (p1 : Int32)  : Option Int32 := some 9
set_option maxRecDepth 10000 in
set_option maxHeartbeats 4000000 in
theorem pX13_whyNoSwap_b39_ok {X : Cx} {G : Gx} {dk : Nat} {g : MT} {r0 : Int32} {h : CT} {this : Nat} {p1 : Int32} (Z : Zx X G cX13_whyNoSwap RX13 2 dk (some .int) (some (.int r0)) g h) (hK : 4 ≤ dk) (t0 : gT g this = 12)  (hf : pX13_whyNoSwap_b39 g h this p1 = some r0) : J X g h 39 [] [] := by
  unfold pX13_whyNoSwap_b39 at hf
  refine J_bipush Z.1 (v := 9) (by decide) dX13_whyNoSwap_39 ?_
  refine J_goto Z.1 45 dX13_whyNoSwap_41 (by decide) ?_
  cases hf
  exact J_iret Z.1 Z.2.2.2.2.2 dX13_whyNoSwap_45
def pX13_whyNoSwap (g : MT) (h : CT) (this : Nat) (p1 : Int32) : Option Int32 := tg g this 12 (bd (pX13_isCode g h this p1) fun x1 => (if x1 = 0 then some 2 else bd (pX13_isCode g h this (p1 + 1)) fun x4 => (if x4 = 0 then some 2 else bd (pX13_dependsOf g h this p1 (p1 + 1)) fun x7 => (if x7 = 0 then bd (pX13_isEndBehind g h this p1) fun x10 => (if x10 = 0 then some 0 else pX13_whyNoSwap_b39 g h this p1  ) else pX13_whyNoSwap_b39 g h this p1  ))))
set_option maxRecDepth 10000 in
set_option maxHeartbeats 4000000 in
theorem pX13_whyNoSwap_ok (G : Gx) (dk : Nat) (hK : 4 ≤ dk) {g : MT} {h : CT} {this : Nat} {p1 : Int32} {r0 : Int32} (hf : pX13_whyNoSwap g h this p1 = some r0) : Ctr G dk yX13_whyNoSwap cX13_whyNoSwap 2 (some .int) [va_rf (some this), .int p1] g h (some (.int r0)) g h := by
  refine Ctr.ofZ (lv := [(0, va_rf (some this)), (1, .int p1)]) (by decide +kernel) (by simp [cat_i, cat_l, cat_d, cat_rf]) rfl fun X Z => ?_
  unfold pX13_whyNoSwap at hf
  obtain ⟨t0, hf⟩ := tg_i hf
  refine J_aload_n Z.1 0 dX13_whyNoSwap_0 rfl rfl ?_
  refine J_iload_n Z.1 1 dX13_whyNoSwap_1 rfl rfl ?_
  obtain ⟨x1, q2, hf⟩ := bd_i hf
  refine J_callV (ci := 11) (as := [.int p1]) (rest := []) (sy := [.int x1]) Z.1 dX13_whyNoSwap_2 cw_X13_544 (pX13_isCode_ok G (dk - 1) (by omega) q2) rfl rfl t0 (zG Z) rfl (by decide) (zF Z (by omega)) (zO Z (by omega) (by decide)) (zM g) Z.2.1 Z.2.1 rfl rfl ?_
  refine J_if_eq Z.1 18 dX13_whyNoSwap_5 (by decide) (fun c3 => ?_) (fun c3 => ?_)
  · rw [if_pos c3] at hf
    refine J_iconst Z.1 (v := 2) (by decide) dX13_whyNoSwap_18 ?_
    cases hf
    exact J_iret Z.1 Z.2.2.2.2.2 dX13_whyNoSwap_19
  · rw [if_neg c3] at hf
    refine J_aload_n Z.1 0 dX13_whyNoSwap_8 rfl rfl ?_
    refine J_iload_n Z.1 1 dX13_whyNoSwap_9 rfl rfl ?_
    refine J_iconst Z.1 (v := 1) (by decide) dX13_whyNoSwap_10 ?_
    refine J_iadd Z.1 dX13_whyNoSwap_11 ?_
    obtain ⟨x4, q5, hf⟩ := bd_i hf
    refine J_callV (ci := 11) (as := [.int (p1 + 1)]) (rest := []) (sy := [.int x4]) Z.1 dX13_whyNoSwap_12 cw_X13_544 (pX13_isCode_ok G (dk - 1) (by omega) q5) rfl rfl t0 (zG Z) rfl (by decide) (zF Z (by omega)) (zO Z (by omega) (by decide)) (zM g) Z.2.1 Z.2.1 rfl rfl ?_
    refine J_if_ne Z.1 20 dX13_whyNoSwap_15 (by decide) (fun c6 => ?_) (fun c6 => ?_)
    · rw [if_neg c6] at hf
      refine J_aload_n Z.1 0 dX13_whyNoSwap_20 rfl rfl ?_
      refine J_iload_n Z.1 1 dX13_whyNoSwap_21 rfl rfl ?_
      refine J_iload_n Z.1 1 dX13_whyNoSwap_22 rfl rfl ?_
      refine J_iconst Z.1 (v := 1) (by decide) dX13_whyNoSwap_23 ?_
      refine J_iadd Z.1 dX13_whyNoSwap_24 ?_
      obtain ⟨x7, q8, hf⟩ := bd_i hf
      refine J_callV (ci := 11) (as := [.int p1, .int (p1 + 1)]) (rest := []) (sy := [.int x7]) Z.1 dX13_whyNoSwap_25 cw_X13_583 (pX13_dependsOf_ok G (dk - 1) (by omega) q8) rfl rfl t0 (zG Z) rfl (by decide) (zF Z (by omega)) (zO Z (by omega) (by decide)) (zM g) Z.2.1 Z.2.1 rfl rfl ?_
      refine J_if_ne Z.1 39 dX13_whyNoSwap_28 (by decide) (fun c9 => ?_) (fun c9 => ?_)
      · rw [if_neg c9] at hf
        refine J_lv [] rfl ?_
        exact pX13_whyNoSwap_b39_ok Z hK t0   hf
      · rw [if_pos c9] at hf
        refine J_aload_n Z.1 0 dX13_whyNoSwap_31 rfl rfl ?_
        refine J_iload_n Z.1 1 dX13_whyNoSwap_32 rfl rfl ?_
        obtain ⟨x10, q11, hf⟩ := bd_i hf
        refine J_callV (ci := 11) (as := [.int p1]) (rest := []) (sy := [.int x10]) Z.1 dX13_whyNoSwap_33 cw_X13_586 (pX13_isEndBehind_ok G (dk - 1) (by omega) q11) rfl rfl t0 (zG Z) rfl (by decide) (zF Z (by omega)) (zO Z (by omega) (by decide)) (zM g) Z.2.1 Z.2.1 rfl rfl ?_
        refine J_if_eq Z.1 44 dX13_whyNoSwap_36 (by decide) (fun c12 => ?_) (fun c12 => ?_)
        · rw [if_pos c12] at hf
          refine J_iconst Z.1 (v := 0) (by decide) dX13_whyNoSwap_44 ?_
          cases hf
          exact J_iret Z.1 Z.2.2.2.2.2 dX13_whyNoSwap_45
        · rw [if_neg c12] at hf
          refine J_lv [] rfl ?_
          exact pX13_whyNoSwap_b39_ok Z hK t0   hf
    · rw [if_pos c6] at hf
      refine J_iconst Z.1 (v := 2) (by decide) dX13_whyNoSwap_18 ?_
      cases hf
      exact J_iret Z.1 Z.2.2.2.2.2 dX13_whyNoSwap_19
theorem dX13_mark_0 : decode cX13_mark 0 = .ok (.aload_n 0, 1) := by decide +kernel
theorem dX13_mark_1 : decode cX13_mark 1 = .ok (.iconst 0, 1) := by decide +kernel
theorem dX13_mark_2 : decode cX13_mark 2 = .ok (.putfield 71, 3) := by decide +kernel
theorem dX13_mark_5 : decode cX13_mark 5 = .ok (.aload_n 0, 1) := by decide +kernel
theorem dX13_mark_6 : decode cX13_mark 6 = .ok (.iconst 0, 1) := by decide +kernel
theorem dX13_mark_7 : decode cX13_mark 7 = .ok (.putfield 74, 3) := by decide +kernel
theorem dX13_mark_10 : decode cX13_mark 10 = .ok (.aload_n 0, 1) := by decide +kernel
theorem dX13_mark_11 : decode cX13_mark 11 = .ok (.getfield 607, 3) := by decide +kernel
theorem dX13_mark_14 : decode cX13_mark 14 = .ok (.iconst 3, 1) := by decide +kernel
theorem dX13_mark_15 : decode cX13_mark 15 = .ok (.if_icmp .ne 10, 3) := by decide +kernel
theorem dX13_mark_18 : decode cX13_mark 18 = .ok (.aload_n 0, 1) := by decide +kernel
theorem dX13_mark_19 : decode cX13_mark 19 = .ok (.bipush 7, 2) := by decide +kernel
theorem dX13_mark_21 : decode cX13_mark 21 = .ok (.invokevirtual 268, 3) := by decide +kernel
theorem dX13_mark_24 : decode cX13_mark 24 = .ok (.ireturn, 1) := by decide +kernel
theorem dX13_mark_25 : decode cX13_mark 25 = .ok (.aload_n 0, 1) := by decide +kernel
theorem dX13_mark_26 : decode cX13_mark 26 = .ok (.dup, 1) := by decide +kernel
theorem dX13_mark_27 : decode cX13_mark 27 = .ok (.getfield 607, 3) := by decide +kernel
theorem dX13_mark_30 : decode cX13_mark 30 = .ok (.iconst 1, 1) := by decide +kernel
theorem dX13_mark_31 : decode cX13_mark 31 = .ok (.iadd, 1) := by decide +kernel
theorem dX13_mark_32 : decode cX13_mark 32 = .ok (.putfield 607, 3) := by decide +kernel
theorem dX13_mark_35 : decode cX13_mark 35 = .ok (.aload_n 0, 1) := by decide +kernel
theorem dX13_mark_36 : decode cX13_mark 36 = .ok (.iconst 0, 1) := by decide +kernel
theorem dX13_mark_37 : decode cX13_mark 37 = .ok (.aload_n 0, 1) := by decide +kernel
theorem dX13_mark_38 : decode cX13_mark 38 = .ok (.getfield 607, 3) := by decide +kernel
theorem dX13_mark_41 : decode cX13_mark 41 = .ok (.invokevirtual 589, 3) := by decide +kernel
theorem dX13_mark_44 : decode cX13_mark 44 = .ok (.aload_n 0, 1) := by decide +kernel
theorem dX13_mark_45 : decode cX13_mark 45 = .ok (.getfield 607, 3) := by decide +kernel
theorem dX13_mark_48 : decode cX13_mark 48 = .ok (.ireturn, 1) := by decide +kernel
def pX13_mark (g : MT) (h : CT) (this : Nat) : Option ((Int32) × CT) := tg g this 12 (lt (sI h this 1 0) fun h1 => (lt (sI h1 this 0 0) fun h2 => (if (hI h2 this 21) = 3 then bd2 (pX13_refuse g h2 this 7) fun x9 h7 => (some (x9, h7)) else lt (sI h2 this 21 ((hI h2 this 21) + 1)) fun h4 => (bd (pX13_copy g h4 this 0 (hI h4 this 21)) fun h5 => (some ((hI h5 this 21), h5))))))
set_option maxRecDepth 10000 in
set_option maxHeartbeats 4000000 in
theorem pX13_mark_ok (G : Gx) (dk : Nat) (hK : 1 ≤ dk) {g : MT} {h h0 : CT} {this : Nat} {r0 : Int32} (hf : pX13_mark g h this = some (r0, h0)) : Ctr G dk yX13_mark cX13_mark 1 (some .int) [va_rf (some this)] g h (some (.int r0)) g h0 := by
  refine Ctr.ofZ (lv := [(0, va_rf (some this))]) (by decide +kernel) (by simp [cat_i, cat_l, cat_d, cat_rf]) rfl fun X Z => ?_
  unfold pX13_mark at hf
  obtain ⟨t0, hf⟩ := tg_i hf
  refine J_aload_n Z.1 0 dX13_mark_0 rfl rfl ?_
  refine J_iconst Z.1 (v := 0) (by decide) dX13_mark_1 ?_
  refine J_putI Z.1 dX13_mark_2 fl_X13_71 (fun q => by cases q) t0 rfl rfl (congrArg Value.int (hI_s _ _ _ _)) ?_
  refine J_th (fun h1 eh1 => ?_)
  replace hf := lt_i hf h1 eh1
  refine J_aload_n Z.1 0 dX13_mark_5 rfl rfl ?_
  refine J_iconst Z.1 (v := 0) (by decide) dX13_mark_6 ?_
  refine J_putI Z.1 dX13_mark_7 fl_X13_74 (fun q => by cases q) t0 rfl rfl (congrArg Value.int (hI_s _ _ _ _)) ?_
  refine J_th (fun h2 eh2 => ?_)
  replace hf := lt_i hf h2 eh2
  refine J_aload_n Z.1 0 dX13_mark_10 rfl rfl ?_
  refine J_get (v := .int (hI h2 this 21)) Z.1 dX13_mark_11 fl_X13_607 t0 rfl ?_
  refine J_iconst Z.1 (v := 3) (by decide) dX13_mark_14 ?_
  refine J_icmp_ne Z.1 25 dX13_mark_15 (by decide) (fun c3 => ?_) (fun c3 => ?_)
  · rw [if_neg c3] at hf
    refine J_aload_n Z.1 0 dX13_mark_25 rfl rfl ?_
    refine J_dup Z.1 dX13_mark_26 rfl ?_
    refine J_get (v := .int (hI h2 this 21)) Z.1 dX13_mark_27 fl_X13_607 t0 rfl ?_
    refine J_iconst Z.1 (v := 1) (by decide) dX13_mark_30 ?_
    refine J_iadd Z.1 dX13_mark_31 ?_
    refine J_putI Z.1 dX13_mark_32 fl_X13_607 (fun q => by cases q) t0 rfl rfl (congrArg Value.int (hI_s _ _ _ _)) ?_
    refine J_th (fun h4 eh4 => ?_)
    replace hf := lt_i hf h4 eh4
    refine J_aload_n Z.1 0 dX13_mark_35 rfl rfl ?_
    refine J_iconst Z.1 (v := 0) (by decide) dX13_mark_36 ?_
    refine J_aload_n Z.1 0 dX13_mark_37 rfl rfl ?_
    refine J_get (v := .int (hI h4 this 21)) Z.1 dX13_mark_38 fl_X13_607 t0 rfl ?_
    obtain ⟨h5, q6, hf⟩ := bd_i hf
    refine J_callV (ci := 11) (as := [.int 0, .int (hI h4 this 21)]) (rest := []) (sy := []) Z.1 dX13_mark_41 cw_X13_589 (pX13_copy_ok G (dk - 1) (by omega) q6) rfl rfl t0 (zG Z) rfl (by decide) (zF Z (by omega)) (zO Z (by omega) (by decide)) (zM g) Z.2.1 Z.2.1 rfl rfl ?_
    refine J_aload_n Z.1 0 dX13_mark_44 rfl rfl ?_
    refine J_get (v := .int (hI h5 this 21)) Z.1 dX13_mark_45 fl_X13_607 t0 rfl ?_
    cases hf
    exact J_iret Z.1 Z.2.2.2.2.2 dX13_mark_48
  · rw [if_pos c3] at hf
    refine J_aload_n Z.1 0 dX13_mark_18 rfl rfl ?_
    refine J_bipush Z.1 (v := 7) (by decide) dX13_mark_19 ?_
    obtain ⟨x9, h7, q8, hf⟩ := bd2_i hf
    refine J_callV (ci := 11) (as := [.int 7]) (rest := []) (sy := [.int x9]) Z.1 dX13_mark_21 cw_X13_268 (pX13_refuse_ok G (dk - 1) (by omega) q8) rfl rfl t0 (zG Z) rfl (by decide) (zF Z (by omega)) (zO Z (by omega) (by decide)) (zM g) Z.2.1 Z.2.1 rfl rfl ?_
    cases hf
    exact J_iret Z.1 Z.2.2.2.2.2 dX13_mark_24
theorem dX13_back_0 : decode cX13_back 0 = .ok (.aload_n 0, 1) := by decide +kernel
theorem dX13_back_1 : decode cX13_back 1 = .ok (.iconst 0, 1) := by decide +kernel
theorem dX13_back_2 : decode cX13_back 2 = .ok (.putfield 71, 3) := by decide +kernel
theorem dX13_back_5 : decode cX13_back 5 = .ok (.aload_n 0, 1) := by decide +kernel
theorem dX13_back_6 : decode cX13_back 6 = .ok (.iconst 0, 1) := by decide +kernel
theorem dX13_back_7 : decode cX13_back 7 = .ok (.putfield 74, 3) := by decide +kernel
theorem dX13_back_10 : decode cX13_back 10 = .ok (.aload_n 0, 1) := by decide +kernel
theorem dX13_back_11 : decode cX13_back 11 = .ok (.getfield 607, 3) := by decide +kernel
theorem dX13_back_14 : decode cX13_back 14 = .ok (.ifCond .ne 10, 3) := by decide +kernel
theorem dX13_back_17 : decode cX13_back 17 = .ok (.aload_n 0, 1) := by decide +kernel
theorem dX13_back_18 : decode cX13_back 18 = .ok (.bipush 8, 2) := by decide +kernel
theorem dX13_back_20 : decode cX13_back 20 = .ok (.invokevirtual 268, 3) := by decide +kernel
theorem dX13_back_23 : decode cX13_back 23 = .ok (.ireturn, 1) := by decide +kernel
theorem dX13_back_24 : decode cX13_back 24 = .ok (.aload_n 0, 1) := by decide +kernel
theorem dX13_back_25 : decode cX13_back 25 = .ok (.aload_n 0, 1) := by decide +kernel
theorem dX13_back_26 : decode cX13_back 26 = .ok (.getfield 607, 3) := by decide +kernel
theorem dX13_back_29 : decode cX13_back 29 = .ok (.iconst 0, 1) := by decide +kernel
theorem dX13_back_30 : decode cX13_back 30 = .ok (.invokevirtual 589, 3) := by decide +kernel
theorem dX13_back_33 : decode cX13_back 33 = .ok (.aload_n 0, 1) := by decide +kernel
theorem dX13_back_34 : decode cX13_back 34 = .ok (.iconst 0, 1) := by decide +kernel
theorem dX13_back_35 : decode cX13_back 35 = .ok (.putfield 271, 3) := by decide +kernel
theorem dX13_back_38 : decode cX13_back 38 = .ok (.aload_n 0, 1) := by decide +kernel
theorem dX13_back_39 : decode cX13_back 39 = .ok (.dup, 1) := by decide +kernel
theorem dX13_back_40 : decode cX13_back 40 = .ok (.getfield 607, 3) := by decide +kernel
theorem dX13_back_43 : decode cX13_back 43 = .ok (.iconst 1, 1) := by decide +kernel
theorem dX13_back_44 : decode cX13_back 44 = .ok (.isub, 1) := by decide +kernel
theorem dX13_back_45 : decode cX13_back 45 = .ok (.putfield 607, 3) := by decide +kernel
theorem dX13_back_48 : decode cX13_back 48 = .ok (.aload_n 0, 1) := by decide +kernel
theorem dX13_back_49 : decode cX13_back 49 = .ok (.getfield 607, 3) := by decide +kernel
theorem dX13_back_52 : decode cX13_back 52 = .ok (.ireturn, 1) := by decide +kernel
def pX13_back (g : MT) (h : CT) (this : Nat) : Option ((Int32) × CT) := tg g this 12 (lt (sI h this 1 0) fun h1 => (lt (sI h1 this 0 0) fun h2 => (if (hI h2 this 21) = 0 then bd2 (pX13_refuse g h2 this 8) fun x10 h8 => (some (x10, h8)) else bd (pX13_copy g h2 this (hI h2 this 21) 0) fun h4 => (lt (sI h4 this 22 0) fun h6 => (lt (sI h6 this 21 ((hI h6 this 21) - 1)) fun h7 => (some ((hI h7 this 21), h7)))))))
set_option maxRecDepth 10000 in
set_option maxHeartbeats 4000000 in
theorem pX13_back_ok (G : Gx) (dk : Nat) (hK : 1 ≤ dk) {g : MT} {h h0 : CT} {this : Nat} {r0 : Int32} (hf : pX13_back g h this = some (r0, h0)) : Ctr G dk yX13_back cX13_back 1 (some .int) [va_rf (some this)] g h (some (.int r0)) g h0 := by
  refine Ctr.ofZ (lv := [(0, va_rf (some this))]) (by decide +kernel) (by simp [cat_i, cat_l, cat_d, cat_rf]) rfl fun X Z => ?_
  unfold pX13_back at hf
  obtain ⟨t0, hf⟩ := tg_i hf
  refine J_aload_n Z.1 0 dX13_back_0 rfl rfl ?_
  refine J_iconst Z.1 (v := 0) (by decide) dX13_back_1 ?_
  refine J_putI Z.1 dX13_back_2 fl_X13_71 (fun q => by cases q) t0 rfl rfl (congrArg Value.int (hI_s _ _ _ _)) ?_
  refine J_th (fun h1 eh1 => ?_)
  replace hf := lt_i hf h1 eh1
  refine J_aload_n Z.1 0 dX13_back_5 rfl rfl ?_
  refine J_iconst Z.1 (v := 0) (by decide) dX13_back_6 ?_
  refine J_putI Z.1 dX13_back_7 fl_X13_74 (fun q => by cases q) t0 rfl rfl (congrArg Value.int (hI_s _ _ _ _)) ?_
  refine J_th (fun h2 eh2 => ?_)
  replace hf := lt_i hf h2 eh2
  refine J_aload_n Z.1 0 dX13_back_10 rfl rfl ?_
  refine J_get (v := .int (hI h2 this 21)) Z.1 dX13_back_11 fl_X13_607 t0 rfl ?_
  refine J_if_ne Z.1 24 dX13_back_14 (by decide) (fun c3 => ?_) (fun c3 => ?_)
  · rw [if_neg c3] at hf
    refine J_aload_n Z.1 0 dX13_back_24 rfl rfl ?_
    refine J_aload_n Z.1 0 dX13_back_25 rfl rfl ?_
    refine J_get (v := .int (hI h2 this 21)) Z.1 dX13_back_26 fl_X13_607 t0 rfl ?_
    refine J_iconst Z.1 (v := 0) (by decide) dX13_back_29 ?_
    obtain ⟨h4, q5, hf⟩ := bd_i hf
    refine J_callV (ci := 11) (as := [.int (hI h2 this 21), .int 0]) (rest := []) (sy := []) Z.1 dX13_back_30 cw_X13_589 (pX13_copy_ok G (dk - 1) (by omega) q5) rfl rfl t0 (zG Z) rfl (by decide) (zF Z (by omega)) (zO Z (by omega) (by decide)) (zM g) Z.2.1 Z.2.1 rfl rfl ?_
    refine J_aload_n Z.1 0 dX13_back_33 rfl rfl ?_
    refine J_iconst Z.1 (v := 0) (by decide) dX13_back_34 ?_
    refine J_putI Z.1 dX13_back_35 fl_X13_271 (fun q => by cases q) t0 (z_n (Or.inl rfl)) (z_f (Or.inl rfl)) (congrArg Value.int (hI_s _ _ _ _)) ?_
    refine J_th (fun h6 eh6 => ?_)
    replace hf := lt_i hf h6 eh6
    refine J_aload_n Z.1 0 dX13_back_38 rfl rfl ?_
    refine J_dup Z.1 dX13_back_39 rfl ?_
    refine J_get (v := .int (hI h6 this 21)) Z.1 dX13_back_40 fl_X13_607 t0 rfl ?_
    refine J_iconst Z.1 (v := 1) (by decide) dX13_back_43 ?_
    refine J_isub Z.1 dX13_back_44 ?_
    refine J_putI Z.1 dX13_back_45 fl_X13_607 (fun q => by cases q) t0 rfl rfl (congrArg Value.int (hI_s _ _ _ _)) ?_
    refine J_th (fun h7 eh7 => ?_)
    replace hf := lt_i hf h7 eh7
    refine J_aload_n Z.1 0 dX13_back_48 rfl rfl ?_
    refine J_get (v := .int (hI h7 this 21)) Z.1 dX13_back_49 fl_X13_607 t0 rfl ?_
    cases hf
    exact J_iret Z.1 Z.2.2.2.2.2 dX13_back_52
  · rw [if_pos c3] at hf
    refine J_aload_n Z.1 0 dX13_back_17 rfl rfl ?_
    refine J_bipush Z.1 (v := 8) (by decide) dX13_back_18 ?_
    obtain ⟨x10, h8, q9, hf⟩ := bd2_i hf
    refine J_callV (ci := 11) (as := [.int 8]) (rest := []) (sy := [.int x10]) Z.1 dX13_back_20 cw_X13_268 (pX13_refuse_ok G (dk - 1) (by omega) q9) rfl rfl t0 (zG Z) rfl (by decide) (zF Z (by omega)) (zO Z (by omega) (by decide)) (zM g) Z.2.1 Z.2.1 rfl rfl ?_
    cases hf
    exact J_iret Z.1 Z.2.2.2.2.2 dX13_back_23
theorem dX13_feed_0 : decode cX13_feed 0 = .ok (.aload_n 0, 1) := by decide +kernel
theorem dX13_feed_1 : decode cX13_feed 1 = .ok (.iconst 0, 1) := by decide +kernel
theorem dX13_feed_2 : decode cX13_feed 2 = .ok (.putfield 71, 3) := by decide +kernel
theorem dX13_feed_5 : decode cX13_feed 5 = .ok (.aload_n 0, 1) := by decide +kernel
theorem dX13_feed_6 : decode cX13_feed 6 = .ok (.getfield 225, 3) := by decide +kernel
theorem dX13_feed_9 : decode cX13_feed 9 = .ok (.bipush 20, 2) := by decide +kernel
theorem dX13_feed_11 : decode cX13_feed 11 = .ok (.iadd, 1) := by decide +kernel
theorem dX13_feed_12 : decode cX13_feed 12 = .ok (.sipush 900, 3) := by decide +kernel
theorem dX13_feed_15 : decode cX13_feed 15 = .ok (.if_icmp .le 5, 3) := by decide +kernel
theorem dX13_feed_18 : decode cX13_feed 18 = .ok (.iconst (-1), 1) := by decide +kernel
theorem dX13_feed_19 : decode cX13_feed 19 = .ok (.ireturn, 1) := by decide +kernel
theorem dX13_feed_20 : decode cX13_feed 20 = .ok (.aload_n 0, 1) := by decide +kernel
theorem dX13_feed_21 : decode cX13_feed 21 = .ok (.iload_n 1, 1) := by decide +kernel
theorem dX13_feed_22 : decode cX13_feed 22 = .ok (.invokevirtual 228, 3) := by decide +kernel
theorem dX13_feed_25 : decode cX13_feed 25 = .ok (.aload_n 0, 1) := by decide +kernel
theorem dX13_feed_26 : decode cX13_feed 26 = .ok (.iload_n 2, 1) := by decide +kernel
theorem dX13_feed_27 : decode cX13_feed 27 = .ok (.invokevirtual 228, 3) := by decide +kernel
theorem dX13_feed_30 : decode cX13_feed 30 = .ok (.aload_n 0, 1) := by decide +kernel
theorem dX13_feed_31 : decode cX13_feed 31 = .ok (.iload_n 3, 1) := by decide +kernel
theorem dX13_feed_32 : decode cX13_feed 32 = .ok (.invokevirtual 228, 3) := by decide +kernel
theorem dX13_feed_35 : decode cX13_feed 35 = .ok (.aload_n 0, 1) := by decide +kernel
theorem dX13_feed_36 : decode cX13_feed 36 = .ok (.iload 4, 2) := by decide +kernel
theorem dX13_feed_38 : decode cX13_feed 38 = .ok (.invokevirtual 228, 3) := by decide +kernel
theorem dX13_feed_41 : decode cX13_feed 41 = .ok (.aload_n 0, 1) := by decide +kernel
theorem dX13_feed_42 : decode cX13_feed 42 = .ok (.iload 5, 2) := by decide +kernel
theorem dX13_feed_44 : decode cX13_feed 44 = .ok (.invokevirtual 228, 3) := by decide +kernel
theorem dX13_feed_47 : decode cX13_feed 47 = .ok (.aload_n 0, 1) := by decide +kernel
theorem dX13_feed_48 : decode cX13_feed 48 = .ok (.getfield 225, 3) := by decide +kernel
theorem dX13_feed_51 : decode cX13_feed 51 = .ok (.ireturn, 1) := by decide +kernel
def pX13_feed (g : MT) (h : CT) (this : Nat) (p1 : Int32) (p2 : Int32) (p3 : Int32) (p4 : Int32) (p5 : Int32) : Option ((Int32) × CT) := tg g this 12 (lt (sI h this 1 0) fun h1 => (if ((hI h1 this 8) + 20) ≤ 900 then bd (pX13_lay g h1 this p1) fun h3 => (bd (pX13_lay g h3 this p2) fun h5 => (bd (pX13_lay g h5 this p3) fun h7 => (bd (pX13_lay g h7 this p4) fun h9 => (bd (pX13_lay g h9 this p5) fun h11 => (some ((hI h11 this 8), h11)))))) else some ((-1), h1)))
set_option maxRecDepth 10000 in
set_option maxHeartbeats 4000000 in
theorem pX13_feed_ok (G : Gx) (dk : Nat) (hK : 1 ≤ dk) {g : MT} {h h0 : CT} {this : Nat} {p1 : Int32} {p2 : Int32} {p3 : Int32} {p4 : Int32} {p5 : Int32} {r0 : Int32} (hf : pX13_feed g h this p1 p2 p3 p4 p5 = some (r0, h0)) : Ctr G dk yX13_feed cX13_feed 6 (some .int) [va_rf (some this), .int p1, .int p2, .int p3, .int p4, .int p5] g h (some (.int r0)) g h0 := by
  refine Ctr.ofZ (lv := [(0, va_rf (some this)), (1, .int p1), (2, .int p2), (3, .int p3), (4, .int p4), (5, .int p5)]) (by decide +kernel) (by simp [cat_i, cat_l, cat_d, cat_rf]) rfl fun X Z => ?_
  unfold pX13_feed at hf
  obtain ⟨t0, hf⟩ := tg_i hf
  refine J_aload_n Z.1 0 dX13_feed_0 rfl rfl ?_
  refine J_iconst Z.1 (v := 0) (by decide) dX13_feed_1 ?_
  refine J_putI Z.1 dX13_feed_2 fl_X13_71 (fun q => by cases q) t0 rfl rfl (congrArg Value.int (hI_s _ _ _ _)) ?_
  refine J_th (fun h1 eh1 => ?_)
  replace hf := lt_i hf h1 eh1
  refine J_aload_n Z.1 0 dX13_feed_5 rfl rfl ?_
  refine J_get (v := .int (hI h1 this 8)) Z.1 dX13_feed_6 fl_X13_225 t0 rfl ?_
  refine J_bipush Z.1 (v := 20) (by decide) dX13_feed_9 ?_
  refine J_iadd Z.1 dX13_feed_11 ?_
  refine J_sipush Z.1 (v := 900) (by decide) dX13_feed_12 ?_
  refine J_icmp_le Z.1 20 dX13_feed_15 (by decide) (fun c2 => ?_) (fun c2 => ?_)
  · rw [if_pos c2] at hf
    refine J_aload_n Z.1 0 dX13_feed_20 rfl rfl ?_
    refine J_iload_n Z.1 1 dX13_feed_21 rfl rfl ?_
    obtain ⟨h3, q4, hf⟩ := bd_i hf
    refine J_callV (ci := 11) (as := [.int p1]) (rest := []) (sy := []) Z.1 dX13_feed_22 cw_X13_228 (pX13_lay_ok G (dk - 1) (by omega) q4) rfl rfl t0 (zG Z) rfl (by decide) (zF Z (by omega)) (zO Z (by omega) (by decide)) (zM g) Z.2.1 Z.2.1 rfl rfl ?_
    refine J_aload_n Z.1 0 dX13_feed_25 rfl rfl ?_
    refine J_iload_n Z.1 2 dX13_feed_26 rfl rfl ?_
    obtain ⟨h5, q6, hf⟩ := bd_i hf
    refine J_callV (ci := 11) (as := [.int p2]) (rest := []) (sy := []) Z.1 dX13_feed_27 cw_X13_228 (pX13_lay_ok G (dk - 1) (by omega) q6) rfl rfl t0 (zG Z) rfl (by decide) (zF Z (by omega)) (zO Z (by omega) (by decide)) (zM g) Z.2.1 Z.2.1 rfl rfl ?_
    refine J_aload_n Z.1 0 dX13_feed_30 rfl rfl ?_
    refine J_iload_n Z.1 3 dX13_feed_31 rfl rfl ?_
    obtain ⟨h7, q8, hf⟩ := bd_i hf
    refine J_callV (ci := 11) (as := [.int p3]) (rest := []) (sy := []) Z.1 dX13_feed_32 cw_X13_228 (pX13_lay_ok G (dk - 1) (by omega) q8) rfl rfl t0 (zG Z) rfl (by decide) (zF Z (by omega)) (zO Z (by omega) (by decide)) (zM g) Z.2.1 Z.2.1 rfl rfl ?_
    refine J_aload_n Z.1 0 dX13_feed_35 rfl rfl ?_
    refine J_iload Z.1 4 dX13_feed_36 rfl ?_
    obtain ⟨h9, q10, hf⟩ := bd_i hf
    refine J_callV (ci := 11) (as := [.int p4]) (rest := []) (sy := []) Z.1 dX13_feed_38 cw_X13_228 (pX13_lay_ok G (dk - 1) (by omega) q10) rfl rfl t0 (zG Z) rfl (by decide) (zF Z (by omega)) (zO Z (by omega) (by decide)) (zM g) Z.2.1 Z.2.1 rfl rfl ?_
    refine J_aload_n Z.1 0 dX13_feed_41 rfl rfl ?_
    refine J_iload Z.1 5 dX13_feed_42 rfl ?_
    obtain ⟨h11, q12, hf⟩ := bd_i hf
    refine J_callV (ci := 11) (as := [.int p5]) (rest := []) (sy := []) Z.1 dX13_feed_44 cw_X13_228 (pX13_lay_ok G (dk - 1) (by omega) q12) rfl rfl t0 (zG Z) rfl (by decide) (zF Z (by omega)) (zO Z (by omega) (by decide)) (zM g) Z.2.1 Z.2.1 rfl rfl ?_
    refine J_aload_n Z.1 0 dX13_feed_47 rfl rfl ?_
    refine J_get (v := .int (hI h11 this 8)) Z.1 dX13_feed_48 fl_X13_225 t0 rfl ?_
    cases hf
    exact J_iret Z.1 Z.2.2.2.2.2 dX13_feed_51
  · rw [if_neg c2] at hf
    refine J_iconst Z.1 (v := (-1)) (by decide) dX13_feed_18 ?_
    cases hf
    exact J_iret Z.1 Z.2.2.2.2.2 dX13_feed_19
