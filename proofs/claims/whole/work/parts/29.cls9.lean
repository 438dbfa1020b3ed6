/-! written by wip/whole/gen.py out of the printed bytecode -/
theorem dX12_partnerOf_0 : decode cX12_partnerOf 0 = .ok (.iload_n 1, 1) := by decide +kernel
theorem dX12_partnerOf_1 : decode cX12_partnerOf 1 = .ok (.iload_n 2, 1) := by decide +kernel
theorem dX12_partnerOf_2 : decode cX12_partnerOf 2 = .ok (.invokestatic 336, 3) := by decide +kernel
theorem dX12_partnerOf_5 : decode cX12_partnerOf 5 = .ok (.istore_n 3, 1) := by decide +kernel
theorem dX12_partnerOf_6 : decode cX12_partnerOf 6 = .ok (.iload_n 3, 1) := by decide +kernel
theorem dX12_partnerOf_7 : decode cX12_partnerOf 7 = .ok (.ifCond .eq 9, 3) := by decide +kernel
theorem dX12_partnerOf_10 : decode cX12_partnerOf 10 = .ok (.aload_n 0, 1) := by decide +kernel
theorem dX12_partnerOf_11 : decode cX12_partnerOf 11 = .ok (.iload_n 3, 1) := by decide +kernel
theorem dX12_partnerOf_12 : decode cX12_partnerOf 12 = .ok (.invokevirtual 143, 3) := by decide +kernel
theorem dX12_partnerOf_15 : decode cX12_partnerOf 15 = .ok (.ireturn, 1) := by decide +kernel
theorem dX12_partnerOf_16 : decode cX12_partnerOf 16 = .ok (.iload_n 1, 1) := by decide +kernel
theorem dX12_partnerOf_17 : decode cX12_partnerOf 17 = .ok (.iconst 1, 1) := by decide +kernel
theorem dX12_partnerOf_18 : decode cX12_partnerOf 18 = .ok (.iadd, 1) := by decide +kernel
theorem dX12_partnerOf_19 : decode cX12_partnerOf 19 = .ok (.iconst 2, 1) := by decide +kernel
theorem dX12_partnerOf_20 : decode cX12_partnerOf 20 = .ok (.idiv, 1) := by decide +kernel
theorem dX12_partnerOf_21 : decode cX12_partnerOf 21 = .ok (.istore 4, 2) := by decide +kernel
theorem dX12_partnerOf_23 : decode cX12_partnerOf 23 = .ok (.iconst 0, 1) := by decide +kernel
theorem dX12_partnerOf_24 : decode cX12_partnerOf 24 = .ok (.istore 5, 2) := by decide +kernel
theorem dX12_partnerOf_26 : decode cX12_partnerOf 26 = .ok (.iload 4, 2) := by decide +kernel
theorem dX12_partnerOf_28 : decode cX12_partnerOf 28 = .ok (.iload_n 2, 1) := by decide +kernel
theorem dX12_partnerOf_29 : decode cX12_partnerOf 29 = .ok (.if_icmp .le 24, 3) := by decide +kernel
theorem dX12_partnerOf_32 : decode cX12_partnerOf 32 = .ok (.iload 5, 2) := by decide +kernel
theorem dX12_partnerOf_34 : decode cX12_partnerOf 34 = .ok (.bipush 16, 2) := by decide +kernel
theorem dX12_partnerOf_36 : decode cX12_partnerOf 36 = .ok (.if_icmp .ge 17, 3) := by decide +kernel
theorem dX12_partnerOf_39 : decode cX12_partnerOf 39 = .ok (.iload 4, 2) := by decide +kernel
theorem dX12_partnerOf_41 : decode cX12_partnerOf 41 = .ok (.iconst 1, 1) := by decide +kernel
theorem dX12_partnerOf_42 : decode cX12_partnerOf 42 = .ok (.iadd, 1) := by decide +kernel
theorem dX12_partnerOf_43 : decode cX12_partnerOf 43 = .ok (.iconst 2, 1) := by decide +kernel
theorem dX12_partnerOf_44 : decode cX12_partnerOf 44 = .ok (.idiv, 1) := by decide +kernel
theorem dX12_partnerOf_45 : decode cX12_partnerOf 45 = .ok (.istore 4, 2) := by decide +kernel
theorem dX12_partnerOf_47 : decode cX12_partnerOf 47 = .ok (.iinc 5 1, 3) := by decide +kernel
theorem dX12_partnerOf_50 : decode cX12_partnerOf 50 = .ok (.goto (-24), 3) := by decide +kernel
theorem dX12_partnerOf_53 : decode cX12_partnerOf 53 = .ok (.aload_n 0, 1) := by decide +kernel
theorem dX12_partnerOf_54 : decode cX12_partnerOf 54 = .ok (.iload_n 2, 1) := by decide +kernel
theorem dX12_partnerOf_55 : decode cX12_partnerOf 55 = .ok (.iload 4, 2) := by decide +kernel
theorem dX12_partnerOf_57 : decode cX12_partnerOf 57 = .ok (.isub, 1) := by decide +kernel
theorem dX12_partnerOf_58 : decode cX12_partnerOf 58 = .ok (.invokevirtual 105, 3) := by decide +kernel
theorem dX12_partnerOf_61 : decode cX12_partnerOf 61 = .ok (.ireturn, 1) := by decide +kernel
def pX12_partnerOf_b53 (g : MT) (this : Nat) (p1 : Int32) (p2 : Int32) (l4 : Int32) (h : CT) : Option ((Int32) × CT) := bd2 (pX12_answer g h this (p2 - l4)) fun x3 h1 => (some (x3, h1))
set_option maxRecDepth 10000 in
set_option maxHeartbeats 4000000 in
theorem pX12_partnerOf_b53_ok {X : Cx} {G : Gx} {dk : Nat} {g : MT} {r0 : Int32} {h0 : CT} {this : Nat} {p1 : Int32} {p2 : Int32} (Z : Zx X G cX12_partnerOf RX12 6 dk (some .int) (some (.int r0)) g h0) (hK : 2 ≤ dk) (t0 : gT g this = 11) (l4 : Int32) (h : CT) (hf : pX12_partnerOf_b53 g this p1 p2 l4 h = some (r0, h0)) : J X g h 53 [(0, va_rf (some this)), (2, .int p2), (4, .int l4)] [] := by
  unfold pX12_partnerOf_b53 at hf
  refine J_aload_n Z.1 0 dX12_partnerOf_53 rfl rfl ?_
  refine J_iload_n Z.1 1 dX12_partnerOf_54 rfl rfl ?_
  refine J_iload Z.1 2 dX12_partnerOf_55 rfl ?_
  refine J_isub Z.1 dX12_partnerOf_57 ?_
  replace hf := bd2_i hf
  obtain ⟨x3, h1, q2, hf⟩ := hf
  refine J_callV (ci := 10) (as := [.int (p2 - l4)]) (rest := []) (sy := [.int x3]) Z.1 dX12_partnerOf_58 cw_X12_105 (pX12_answer_ok G (dk - 1) (by omega) q2) rfl rfl t0 (zG Z) rfl (by decide) (zF Z (by omega)) (zO Z (by omega) (by decide)) (zM _) Z.2.1 Z.2.1 rfl rfl ?_
  cases hf
  exact J_iret Z.1 Z.2.2.2.2.2 dX12_partnerOf_61
def pX12_partnerOf_b26 (g : MT) (this : Nat) (p1 : Int32) (p2 : Int32) (k26 : Int32 → Int32 → CT → Option ((Int32) × CT)) (l4 : Int32) (l5 : Int32) (h : CT) : Option ((Int32) × CT) := if l4 ≤ p2 then pX12_partnerOf_b53 g this p1 p2  l4 h else if 16 ≤ l5 then pX12_partnerOf_b53 g this p1 p2  l4 h else lt ((l4 + 1) / 2) fun x3 => (lt (l5 + 1) fun x4 => (k26 x3 x4 h))
set_option maxRecDepth 10000 in
set_option maxHeartbeats 4000000 in
theorem pX12_partnerOf_b26_ok {X : Cx} {G : Gx} {dk : Nat} {g : MT} {r0 : Int32} {h0 : CT} {this : Nat} {p1 : Int32} {p2 : Int32} {k26 : Int32 → Int32 → CT → Option ((Int32) × CT)} (Z : Zx X G cX12_partnerOf RX12 6 dk (some .int) (some (.int r0)) g h0) (hK : 2 ≤ dk) (t0 : gT g this = 11) (hk26 : ∀ (l4 : Int32) (l5 : Int32) (h : CT), k26 l4 l5 h = some (r0, h0) → J X g h 26 [(0, va_rf (some this)), (2, .int p2), (4, .int l4), (5, .int l5)] []) (l4 : Int32) (l5 : Int32) (h : CT) (hf : pX12_partnerOf_b26 g this p1 p2 k26 l4 l5 h = some (r0, h0)) : J X g h 26 [(0, va_rf (some this)), (2, .int p2), (4, .int l4), (5, .int l5)] [] := by
  unfold pX12_partnerOf_b26 at hf
  refine J_iload Z.1 2 dX12_partnerOf_26 rfl ?_
  refine J_iload_n Z.1 1 dX12_partnerOf_28 rfl rfl ?_
  refine J_icmp_le Z.1 53 dX12_partnerOf_29 (by decide) (fun c1 => ?_) (fun c1 => ?_)
  · rw [if_pos c1] at hf
    refine J_lv [0, 1, 2] rfl ?_
    exact pX12_partnerOf_b53_ok Z hK t0  _ _ hf
  · rw [if_neg c1] at hf
    refine J_iload Z.1 3 dX12_partnerOf_32 rfl ?_
    refine J_bipush Z.1 (v := 16) (by decide) dX12_partnerOf_34 ?_
    refine J_icmp_ge Z.1 53 dX12_partnerOf_36 (by decide) (fun c2 => ?_) (fun c2 => ?_)
    · rw [if_pos c2] at hf
      refine J_lv [0, 1, 2] rfl ?_
      exact pX12_partnerOf_b53_ok Z hK t0  _ _ hf
    · rw [if_neg c2] at hf
      refine J_iload Z.1 2 dX12_partnerOf_39 rfl ?_
      refine J_iconst Z.1 (v := 1) (by decide) dX12_partnerOf_41 ?_
      refine J_iadd Z.1 dX12_partnerOf_42 ?_
      refine J_iconst Z.1 (v := 2) (by decide) dX12_partnerOf_43 ?_
      refine J_idiv Z.1 (by decide) dX12_partnerOf_44 ?_
      refine J_ti (fun x3 ex3 => ?_)
      replace hf := lt_i hf x3 ex3
      refine J_istore Z.1 (lv2 := [(4, .int x3), (0, va_rf (some this)), (2, .int p2), (5, .int l5)]) dX12_partnerOf_45 (zL Z (by decide)) rfl ?_
      refine J_iinc Z.1 (v := 1) (lv2 := [(5, .int (l5 + 1)), (4, .int x3), (0, va_rf (some this)), (2, .int p2)]) 3 dX12_partnerOf_47 rfl (by decide) (zL Z (by decide)) rfl ?_
      obtain ⟨x4, ex4⟩ : ∃ z, z = (l5 + 1) := ⟨_, rfl⟩
      replace hf := lt_i hf x4 ex4
      rw [← ex4]
      refine J_goto Z.1 26 dX12_partnerOf_50 (by decide) ?_
      refine J_lv [2, 3, 1, 0] rfl ?_
      exact hk26 _ _ _ hf
def pX12_partnerOf_l26 (g : MT) (this : Nat) (p1 : Int32) (p2 : Int32) : Nat → Int32 → Int32 → CT → Option ((Int32) × CT)
  | 0, _, _, _ => none
  | n + 1, l4, l5, h => pX12_partnerOf_b26 g this p1 p2 (pX12_partnerOf_l26 g this p1 p2 n) l4 l5 h
theorem pX12_partnerOf_l26_ok {X : Cx} {G : Gx} {dk : Nat} {g : MT} {r0 : Int32} {h0 : CT} {this : Nat} {p1 : Int32} {p2 : Int32} (Z : Zx X G cX12_partnerOf RX12 6 dk (some .int) (some (.int r0)) g h0) (hK : 2 ≤ dk) (t0 : gT g this = 11) : ∀ (n : Nat) (l4 : Int32) (l5 : Int32) (h : CT), pX12_partnerOf_l26 g this p1 p2 n l4 l5 h = some (r0, h0) → J X g h 26 [(0, va_rf (some this)), (2, .int p2), (4, .int l4), (5, .int l5)] [] := by
  intro n
  induction n with
  | zero => intro l4 l5 h hf; cases hf
  | succ n ih => intro l4 l5 h hf; exact pX12_partnerOf_b26_ok Z hK t0 ih l4 l5 h hf
def pX12_partnerOf (g : MT) (h : CT) (this : Nat) (p1 : Int32) (p2 : Int32) : Option ((Int32) × CT) := tg g this 11 (lt (pX12_halvingTrouble p1 p2) fun x1 => (if x1 = 0 then lt ((p1 + 1) / 2) fun x3 => (pX12_partnerOf_l26 g this p1 p2  FUEL x3 0 h) else bd2 (pX12_refuse g h this x1) fun x6 h4 => (some (x6, h4))))
set_option maxRecDepth 10000 in
set_option maxHeartbeats 4000000 in
theorem pX12_partnerOf_ok (G : Gx) (dk : Nat) (hK : 2 ≤ dk) {g : MT} {h h0 : CT} {this : Nat} {p1 : Int32} {p2 : Int32} {r0 : Int32} (hf : pX12_partnerOf g h this p1 p2 = some (r0, h0)) : Ctr G dk yX12_partnerOf cX12_partnerOf 6 (some .int) [va_rf (some this), .int p1, .int p2] g h (some (.int r0)) g h0 := by
  refine Ctr.ofZ (lv := [(0, va_rf (some this)), (1, .int p1), (2, .int p2)]) (by decide +kernel) (by simp [cat_i, cat_l, cat_d, cat_rf]) rfl fun X Z => ?_
  unfold pX12_partnerOf at hf
  replace hf := tg_i hf
  obtain ⟨t0, hf⟩ := hf
  refine J_iload_n Z.1 1 dX12_partnerOf_0 rfl rfl ?_
  refine J_iload_n Z.1 2 dX12_partnerOf_1 rfl rfl ?_
  refine J_callS (as := [.int p1, .int p2]) (rest := []) (sy := [.int (pX12_halvingTrouble p1 p2)]) Z.1 dX12_partnerOf_2 cw_X12_336 (pX12_halvingTrouble_ok G (dk - 1) (by omega) g h p1 p2) (zG Z) rfl (by decide) (zF Z (by omega)) (zO Z (by omega) (by decide)) (zM _) Z.2.1 Z.2.1 rfl rfl ?_
  refine J_ti (fun x1 ex1 => ?_)
  replace hf := lt_i hf x1 ex1
  refine J_istore_n Z.1 (lv2 := [(3, .int x1), (0, va_rf (some this)), (1, .int p1), (2, .int p2)]) dX12_partnerOf_5 rfl (zL Z (by decide)) rfl ?_
  refine J_iload_n Z.1 0 dX12_partnerOf_6 rfl rfl ?_
  refine J_if_eq Z.1 16 dX12_partnerOf_7 (by decide) (fun c2 => ?_) (fun c2 => ?_)
  · rw [if_pos c2] at hf
    refine J_iload_n Z.1 2 dX12_partnerOf_16 rfl rfl ?_
    refine J_iconst Z.1 (v := 1) (by decide) dX12_partnerOf_17 ?_
    refine J_iadd Z.1 dX12_partnerOf_18 ?_
    refine J_iconst Z.1 (v := 2) (by decide) dX12_partnerOf_19 ?_
    refine J_idiv Z.1 (by decide) dX12_partnerOf_20 ?_
    refine J_ti (fun x3 ex3 => ?_)
    replace hf := lt_i hf x3 ex3
    refine J_istore Z.1 (lv2 := [(4, .int x3), (3, .int x1), (0, va_rf (some this)), (1, .int p1), (2, .int p2)]) dX12_partnerOf_21 (zL Z (by decide)) rfl ?_
    refine J_iconst Z.1 (v := 0) (by decide) dX12_partnerOf_23 ?_
    refine J_istore Z.1 (lv2 := [(5, .int 0), (4, .int x3), (3, .int x1), (0, va_rf (some this)), (1, .int p1), (2, .int p2)]) dX12_partnerOf_24 (zL Z (by decide)) rfl ?_
    refine J_lv [3, 5, 1, 0] rfl ?_
    exact pX12_partnerOf_l26_ok Z hK t0  FUEL _ _ _ hf
  · rw [if_neg c2] at hf
    refine J_aload_n Z.1 1 dX12_partnerOf_10 rfl rfl ?_
    refine J_iload_n Z.1 0 dX12_partnerOf_11 rfl rfl ?_
    replace hf := bd2_i hf
    obtain ⟨x6, h4, q5, hf⟩ := hf
    refine J_callV (ci := 10) (as := [.int x1]) (rest := []) (sy := [.int x6]) Z.1 dX12_partnerOf_12 cw_X12_143 (pX12_refuse_ok G (dk - 1) (by omega) q5) rfl rfl t0 (zG Z) rfl (by decide) (zF Z (by omega)) (zO Z (by omega) (by decide)) (zM _) Z.2.1 Z.2.1 rfl rfl ?_
    cases hf
    exact J_iret Z.1 Z.2.2.2.2.2 dX12_partnerOf_15
theorem dX12_aloneTrouble_0 : decode cX12_aloneTrouble 0 = .ok (.iload_n 1, 1) := by decide +kernel
theorem dX12_aloneTrouble_1 : decode cX12_aloneTrouble 1 = .ok (.invokestatic 235, 3) := by decide +kernel
theorem dX12_aloneTrouble_4 : decode cX12_aloneTrouble 4 = .ok (.ifCond .ne 5, 3) := by decide +kernel
theorem dX12_aloneTrouble_7 : decode cX12_aloneTrouble 7 = .ok (.iconst 2, 1) := by decide +kernel
theorem dX12_aloneTrouble_8 : decode cX12_aloneTrouble 8 = .ok (.ireturn, 1) := by decide +kernel
theorem dX12_aloneTrouble_9 : decode cX12_aloneTrouble 9 = .ok (.iload_n 2, 1) := by decide +kernel
theorem dX12_aloneTrouble_10 : decode cX12_aloneTrouble 10 = .ok (.iconst 0, 1) := by decide +kernel
theorem dX12_aloneTrouble_11 : decode cX12_aloneTrouble 11 = .ok (.bipush 64, 2) := by decide +kernel
theorem dX12_aloneTrouble_13 : decode cX12_aloneTrouble 13 = .ok (.invokestatic 109, 3) := by decide +kernel
theorem dX12_aloneTrouble_16 : decode cX12_aloneTrouble 16 = .ok (.ifCond .eq 17, 3) := by decide +kernel
theorem dX12_aloneTrouble_19 : decode cX12_aloneTrouble 19 = .ok (.iload_n 3, 1) := by decide +kernel
theorem dX12_aloneTrouble_20 : decode cX12_aloneTrouble 20 = .ok (.iconst 0, 1) := by decide +kernel
theorem dX12_aloneTrouble_21 : decode cX12_aloneTrouble 21 = .ok (.bipush 64, 2) := by decide +kernel
theorem dX12_aloneTrouble_23 : decode cX12_aloneTrouble 23 = .ok (.invokestatic 109, 3) := by decide +kernel
theorem dX12_aloneTrouble_26 : decode cX12_aloneTrouble 26 = .ok (.ifCond .eq 7, 3) := by decide +kernel
theorem dX12_aloneTrouble_29 : decode cX12_aloneTrouble 29 = .ok (.iconst 0, 1) := by decide +kernel
theorem dX12_aloneTrouble_30 : decode cX12_aloneTrouble 30 = .ok (.goto 4, 3) := by decide +kernel
theorem dX12_aloneTrouble_33 : decode cX12_aloneTrouble 33 = .ok (.iconst 5, 1) := by decide +kernel
theorem dX12_aloneTrouble_34 : decode cX12_aloneTrouble 34 = .ok (.ireturn, 1) := by decide +kernel
def pX12_aloneTrouble (this : Nat) (p1 : Int32) (p2 : Int32) (p3 : Int32) : Int32 := if (pX12_isWord p1) = 0 then 2 else if (pX12_within p2 0 64) = 0 then 5 else if (pX12_within p3 0 64) = 0 then 5 else 0
set_option maxRecDepth 10000 in
set_option maxHeartbeats 4000000 in
theorem pX12_aloneTrouble_ok (G : Gx) (dk : Nat) (hK : 2 ≤ dk) (g : MT) (h0 : CT) (this : Nat) (p1 : Int32) (p2 : Int32) (p3 : Int32) : Ctr G dk yX12_aloneTrouble cX12_aloneTrouble 4 (some .int) [va_rf (some this), .int p1, .int p2, .int p3] g h0 (some (.int (pX12_aloneTrouble this p1 p2 p3))) g h0 := by
  obtain ⟨r0, hf⟩ : ∃ z, pX12_aloneTrouble this p1 p2 p3 = z := ⟨_, rfl⟩
  rw [hf]
  refine Ctr.ofZ (lv := [(0, va_rf (some this)), (1, .int p1), (2, .int p2), (3, .int p3)]) (by decide +kernel) (by simp [cat_i, cat_l, cat_d, cat_rf]) rfl fun X Z => ?_
  unfold pX12_aloneTrouble at hf
  refine J_iload_n Z.1 1 dX12_aloneTrouble_0 rfl rfl ?_
  refine J_callS (as := [.int p1]) (rest := []) (sy := [.int (pX12_isWord p1)]) Z.1 dX12_aloneTrouble_1 cw_X12_235 (pX12_isWord_ok G (dk - 1) (by omega) g h0 p1) (zG Z) rfl (by decide) (zF Z (by omega)) (zO Z (by omega) (by decide)) (zM _) Z.2.1 Z.2.1 rfl rfl ?_
  refine J_if_ne Z.1 9 dX12_aloneTrouble_4 (by decide) (fun c1 => ?_) (fun c1 => ?_)
  · rw [if_neg c1] at hf
    refine J_iload_n Z.1 2 dX12_aloneTrouble_9 rfl rfl ?_
    refine J_iconst Z.1 (v := 0) (by decide) dX12_aloneTrouble_10 ?_
    refine J_bipush Z.1 (v := 64) (by decide) dX12_aloneTrouble_11 ?_
    refine J_callS (as := [.int p2, .int 0, .int 64]) (rest := []) (sy := [.int (pX12_within p2 0 64)]) Z.1 dX12_aloneTrouble_13 cw_X12_109 (pX12_within_ok G (dk - 1) (by omega) g h0 p2 0 64) (zG Z) rfl (by decide) (zF Z (by omega)) (zO Z (by omega) (by decide)) (zM _) Z.2.1 Z.2.1 rfl rfl ?_
    refine J_if_eq Z.1 33 dX12_aloneTrouble_16 (by decide) (fun c2 => ?_) (fun c2 => ?_)
    · rw [if_pos c2] at hf
      refine J_iconst Z.1 (v := 5) (by decide) dX12_aloneTrouble_33 ?_
      cases hf
      exact J_iret Z.1 Z.2.2.2.2.2 dX12_aloneTrouble_34
    · rw [if_neg c2] at hf
      refine J_iload_n Z.1 3 dX12_aloneTrouble_19 rfl rfl ?_
      refine J_iconst Z.1 (v := 0) (by decide) dX12_aloneTrouble_20 ?_
      refine J_bipush Z.1 (v := 64) (by decide) dX12_aloneTrouble_21 ?_
      refine J_callS (as := [.int p3, .int 0, .int 64]) (rest := []) (sy := [.int (pX12_within p3 0 64)]) Z.1 dX12_aloneTrouble_23 cw_X12_109 (pX12_within_ok G (dk - 1) (by omega) g h0 p3 0 64) (zG Z) rfl (by decide) (zF Z (by omega)) (zO Z (by omega) (by decide)) (zM _) Z.2.1 Z.2.1 rfl rfl ?_
      refine J_if_eq Z.1 33 dX12_aloneTrouble_26 (by decide) (fun c3 => ?_) (fun c3 => ?_)
      · rw [if_pos c3] at hf
        refine J_iconst Z.1 (v := 5) (by decide) dX12_aloneTrouble_33 ?_
        cases hf
        exact J_iret Z.1 Z.2.2.2.2.2 dX12_aloneTrouble_34
      · rw [if_neg c3] at hf
        refine J_iconst Z.1 (v := 0) (by decide) dX12_aloneTrouble_29 ?_
        refine J_goto Z.1 34 dX12_aloneTrouble_30 (by decide) ?_
        cases hf
        exact J_iret Z.1 Z.2.2.2.2.2 dX12_aloneTrouble_34
  · rw [if_pos c1] at hf
    refine J_iconst Z.1 (v := 2) (by decide) dX12_aloneTrouble_7 ?_
    cases hf
    exact J_iret Z.1 Z.2.2.2.2.2 dX12_aloneTrouble_8
theorem dX12_stalls_0 : decode cX12_stalls 0 = .ok (.aload_n 0, 1) := by decide +kernel
theorem dX12_stalls_1 : decode cX12_stalls 1 = .ok (.iload_n 1, 1) := by decide +kernel
theorem dX12_stalls_2 : decode cX12_stalls 2 = .ok (.iload_n 2, 1) := by decide +kernel
theorem dX12_stalls_3 : decode cX12_stalls 3 = .ok (.iload_n 3, 1) := by decide +kernel
theorem dX12_stalls_4 : decode cX12_stalls 4 = .ok (.invokevirtual 339, 3) := by decide +kernel
theorem dX12_stalls_7 : decode cX12_stalls 7 = .ok (.istore 4, 2) := by decide +kernel
theorem dX12_stalls_9 : decode cX12_stalls 9 = .ok (.iload 4, 2) := by decide +kernel
theorem dX12_stalls_11 : decode cX12_stalls 11 = .ok (.ifCond .eq 10, 3) := by decide +kernel
theorem dX12_stalls_14 : decode cX12_stalls 14 = .ok (.aload_n 0, 1) := by decide +kernel
theorem dX12_stalls_15 : decode cX12_stalls 15 = .ok (.iload 4, 2) := by decide +kernel
theorem dX12_stalls_17 : decode cX12_stalls 17 = .ok (.invokevirtual 143, 3) := by decide +kernel
theorem dX12_stalls_20 : decode cX12_stalls 20 = .ok (.ireturn, 1) := by decide +kernel
theorem dX12_stalls_21 : decode cX12_stalls 21 = .ok (.aload_n 0, 1) := by decide +kernel
theorem dX12_stalls_22 : decode cX12_stalls 22 = .ok (.aload_n 0, 1) := by decide +kernel
theorem dX12_stalls_23 : decode cX12_stalls 23 = .ok (.getfield 71, 3) := by decide +kernel
theorem dX12_stalls_26 : decode cX12_stalls 26 = .ok (.iload_n 1, 1) := by decide +kernel
theorem dX12_stalls_27 : decode cX12_stalls 27 = .ok (.iload_n 2, 1) := by decide +kernel
theorem dX12_stalls_28 : decode cX12_stalls 28 = .ok (.iload_n 3, 1) := by decide +kernel
theorem dX12_stalls_29 : decode cX12_stalls 29 = .ok (.aload_n 0, 1) := by decide +kernel
theorem dX12_stalls_30 : decode cX12_stalls 30 = .ok (.getfield 30, 3) := by decide +kernel
theorem dX12_stalls_33 : decode cX12_stalls 33 = .ok (.getfield 196, 3) := by decide +kernel
theorem dX12_stalls_36 : decode cX12_stalls 36 = .ok (.aload_n 0, 1) := by decide +kernel
theorem dX12_stalls_37 : decode cX12_stalls 37 = .ok (.getfield 30, 3) := by decide +kernel
theorem dX12_stalls_40 : decode cX12_stalls 40 = .ok (.getfield 199, 3) := by decide +kernel
theorem dX12_stalls_43 : decode cX12_stalls 43 = .ok (.invokevirtual 342, 3) := by decide +kernel
theorem dX12_stalls_46 : decode cX12_stalls 46 = .ok (.invokevirtual 105, 3) := by decide +kernel
theorem dX12_stalls_49 : decode cX12_stalls 49 = .ok (.ireturn, 1) := by decide +kernel
def pX12_stalls (g : MT) (h : CT) (this : Nat) (p1 : Int32) (p2 : Int32) (p3 : Int32) : Option ((Int32) × CT) := tg g this 11 (lt (pX12_aloneTrouble this p1 p2 p3) fun x1 => (if x1 = 0 then lt (hR h this 13) fun r3 => (lt (hR h this 4) fun r4 => (nn r4 fun a4 => (tg g a4 3 (lt (hR h this 4) fun r6 => (nn r6 fun a6 => (tg g a6 3 (nn r3 fun a3 => (tg g a3 9 (bd2 (pX10_stallsAlone g h a3 p1 p2 p3 (hI h a4 6) (hI h a6 7)) fun x11 h9 => (bd2 (pX12_answer g h9 this x11) fun x14 h12 => (some (x14, h12)))))))))))) else bd2 (pX12_refuse g h this x1) fun x17 h15 => (some (x17, h15))))
set_option maxRecDepth 10000 in
set_option maxHeartbeats 4000000 in
theorem pX12_stalls_ok (G : Gx) (dk : Nat) (hK : 3 ≤ dk) {g : MT} {h h0 : CT} {this : Nat} {p1 : Int32} {p2 : Int32} {p3 : Int32} {r0 : Int32} (hf : pX12_stalls g h this p1 p2 p3 = some (r0, h0)) : Ctr G dk yX12_stalls cX12_stalls 5 (some .int) [va_rf (some this), .int p1, .int p2, .int p3] g h (some (.int r0)) g h0 := by
  refine Ctr.ofZ (lv := [(0, va_rf (some this)), (1, .int p1), (2, .int p2), (3, .int p3)]) (by decide +kernel) (by simp [cat_i, cat_l, cat_d, cat_rf]) rfl fun X Z => ?_
  unfold pX12_stalls at hf
  replace hf := tg_i hf
  obtain ⟨t0, hf⟩ := hf
  refine J_aload_n Z.1 0 dX12_stalls_0 rfl rfl ?_
  refine J_iload_n Z.1 1 dX12_stalls_1 rfl rfl ?_
  refine J_iload_n Z.1 2 dX12_stalls_2 rfl rfl ?_
  refine J_iload_n Z.1 3 dX12_stalls_3 rfl rfl ?_
  refine J_callV (ci := 10) (as := [.int p1, .int p2, .int p3]) (rest := []) (sy := [.int (pX12_aloneTrouble this p1 p2 p3)]) Z.1 dX12_stalls_4 cw_X12_339 (pX12_aloneTrouble_ok G (dk - 1) (by omega) g h this p1 p2 p3) rfl rfl t0 (zG Z) rfl (by decide) (zF Z (by omega)) (zO Z (by omega) (by decide)) (zM _) Z.2.1 Z.2.1 rfl rfl ?_
  refine J_ti (fun x1 ex1 => ?_)
  replace hf := lt_i hf x1 ex1
  refine J_istore Z.1 (lv2 := [(4, .int x1), (0, va_rf (some this)), (1, .int p1), (2, .int p2), (3, .int p3)]) dX12_stalls_7 (zL Z (by decide)) rfl ?_
  refine J_iload Z.1 0 dX12_stalls_9 rfl ?_
  refine J_if_eq Z.1 21 dX12_stalls_11 (by decide) (fun c2 => ?_) (fun c2 => ?_)
  · rw [if_pos c2] at hf
    refine J_aload_n Z.1 1 dX12_stalls_21 rfl rfl ?_
    refine J_aload_n Z.1 1 dX12_stalls_22 rfl rfl ?_
    refine J_get (v := va_rf (hR h this 13)) Z.1 dX12_stalls_23 fl_X12_71 t0 rfl ?_
    refine J_tr (fun r3 er3 => ?_)
    replace hf := lt_i hf r3 er3
    refine J_iload_n Z.1 2 dX12_stalls_26 rfl rfl ?_
    refine J_iload_n Z.1 3 dX12_stalls_27 rfl rfl ?_
    refine J_iload_n Z.1 4 dX12_stalls_28 rfl rfl ?_
    refine J_aload_n Z.1 1 dX12_stalls_29 rfl rfl ?_
    refine J_get (v := va_rf (hR h this 4)) Z.1 dX12_stalls_30 fl_X12_30 t0 rfl ?_
    refine J_tr (fun r4 er4 => ?_)
    replace hf := lt_i hf r4 er4
    replace hf := nn_i hf
    obtain ⟨a4, rfl, hf⟩ := hf
    replace hf := tg_i hf
    obtain ⟨t5, hf⟩ := hf
    refine J_get (v := .int (hI h a4 6)) Z.1 dX12_stalls_33 fl_X12_196 t5 rfl ?_
    refine J_aload_n Z.1 1 dX12_stalls_36 rfl rfl ?_
    refine J_get (v := va_rf (hR h this 4)) Z.1 dX12_stalls_37 fl_X12_30 t0 rfl ?_
    refine J_tr (fun r6 er6 => ?_)
    replace hf := lt_i hf r6 er6
    replace hf := nn_i hf
    obtain ⟨a6, rfl, hf⟩ := hf
    replace hf := tg_i hf
    obtain ⟨t7, hf⟩ := hf
    refine J_get (v := .int (hI h a6 7)) Z.1 dX12_stalls_40 fl_X12_199 t7 rfl ?_
    replace hf := nn_i hf
    obtain ⟨a3, rfl, hf⟩ := hf
    replace hf := tg_i hf
    obtain ⟨t8, hf⟩ := hf
    replace hf := bd2_i hf
    obtain ⟨x11, h9, q10, hf⟩ := hf
    refine J_callV (ci := 8) (as := [.int p1, .int p2, .int p3, .int (hI h a4 6), .int (hI h a6 7)]) (rest := [va_rf (some this)]) (sy := [.int x11, va_rf (some this)]) Z.1 dX12_stalls_43 cw_X12_342 (pX10_stallsAlone_ok G (dk - 1) (by omega) q10) rfl rfl t8 (zG Z) rfl (by simp [cat_i, cat_l, cat_d, cat_rf]) (zF Z (by omega)) (zO Z (by omega) (by decide)) (zM _) Z.2.1 Z.2.1 rfl rfl ?_
    replace hf := bd2_i hf
    obtain ⟨x14, h12, q13, hf⟩ := hf
    refine J_callV (ci := 10) (as := [.int x11]) (rest := []) (sy := [.int x14]) Z.1 dX12_stalls_46 cw_X12_105 (pX12_answer_ok G (dk - 1) (by omega) q13) rfl rfl t0 (zG Z) rfl (by decide) (zF Z (by omega)) (zO Z (by omega) (by decide)) (zM _) Z.2.1 Z.2.1 rfl rfl ?_
    cases hf
    exact J_iret Z.1 Z.2.2.2.2.2 dX12_stalls_49
  · rw [if_neg c2] at hf
    refine J_aload_n Z.1 1 dX12_stalls_14 rfl rfl ?_
    refine J_iload Z.1 0 dX12_stalls_15 rfl ?_
    replace hf := bd2_i hf
    obtain ⟨x17, h15, q16, hf⟩ := hf
    refine J_callV (ci := 10) (as := [.int x1]) (rest := []) (sy := [.int x17]) Z.1 dX12_stalls_17 cw_X12_143 (pX12_refuse_ok G (dk - 1) (by omega) q16) rfl rfl t0 (zG Z) rfl (by decide) (zF Z (by omega)) (zO Z (by omega) (by decide)) (zM _) Z.2.1 Z.2.1 rfl rfl ?_
    cases hf
    exact J_iret Z.1 Z.2.2.2.2.2 dX12_stalls_20
theorem dX12_banksFor_0 : decode cX12_banksFor 0 = .ok (.aload_n 0, 1) := by decide +kernel
theorem dX12_banksFor_1 : decode cX12_banksFor 1 = .ok (.iload_n 1, 1) := by decide +kernel
theorem dX12_banksFor_2 : decode cX12_banksFor 2 = .ok (.iload_n 2, 1) := by decide +kernel
theorem dX12_banksFor_3 : decode cX12_banksFor 3 = .ok (.iload_n 3, 1) := by decide +kernel
theorem dX12_banksFor_4 : decode cX12_banksFor 4 = .ok (.invokevirtual 339, 3) := by decide +kernel
theorem dX12_banksFor_7 : decode cX12_banksFor 7 = .ok (.istore 4, 2) := by decide +kernel
theorem dX12_banksFor_9 : decode cX12_banksFor 9 = .ok (.iload 4, 2) := by decide +kernel
theorem dX12_banksFor_11 : decode cX12_banksFor 11 = .ok (.ifCond .eq 10, 3) := by decide +kernel
theorem dX12_banksFor_14 : decode cX12_banksFor 14 = .ok (.aload_n 0, 1) := by decide +kernel
theorem dX12_banksFor_15 : decode cX12_banksFor 15 = .ok (.iload 4, 2) := by decide +kernel
theorem dX12_banksFor_17 : decode cX12_banksFor 17 = .ok (.invokevirtual 143, 3) := by decide +kernel
theorem dX12_banksFor_20 : decode cX12_banksFor 20 = .ok (.ireturn, 1) := by decide +kernel
theorem dX12_banksFor_21 : decode cX12_banksFor 21 = .ok (.iconst 1, 1) := by decide +kernel
theorem dX12_banksFor_22 : decode cX12_banksFor 22 = .ok (.istore 5, 2) := by decide +kernel
theorem dX12_banksFor_24 : decode cX12_banksFor 24 = .ok (.iload 5, 2) := by decide +kernel
theorem dX12_banksFor_26 : decode cX12_banksFor 26 = .ok (.bipush 16, 2) := by decide +kernel
theorem dX12_banksFor_28 : decode cX12_banksFor 28 = .ok (.if_icmp .gt 38, 3) := by decide +kernel
theorem dX12_banksFor_31 : decode cX12_banksFor 31 = .ok (.aload_n 0, 1) := by decide +kernel
theorem dX12_banksFor_32 : decode cX12_banksFor 32 = .ok (.getfield 71, 3) := by decide +kernel
theorem dX12_banksFor_35 : decode cX12_banksFor 35 = .ok (.iload_n 1, 1) := by decide +kernel
theorem dX12_banksFor_36 : decode cX12_banksFor 36 = .ok (.iload_n 2, 1) := by decide +kernel
theorem dX12_banksFor_37 : decode cX12_banksFor 37 = .ok (.iload_n 3, 1) := by decide +kernel
theorem dX12_banksFor_38 : decode cX12_banksFor 38 = .ok (.iload 5, 2) := by decide +kernel
theorem dX12_banksFor_40 : decode cX12_banksFor 40 = .ok (.aload_n 0, 1) := by decide +kernel
theorem dX12_banksFor_41 : decode cX12_banksFor 41 = .ok (.getfield 30, 3) := by decide +kernel
theorem dX12_banksFor_44 : decode cX12_banksFor 44 = .ok (.getfield 199, 3) := by decide +kernel
theorem dX12_banksFor_47 : decode cX12_banksFor 47 = .ok (.invokevirtual 342, 3) := by decide +kernel
theorem dX12_banksFor_50 : decode cX12_banksFor 50 = .ok (.ifCond .ne 10, 3) := by decide +kernel
theorem dX12_banksFor_53 : decode cX12_banksFor 53 = .ok (.aload_n 0, 1) := by decide +kernel
theorem dX12_banksFor_54 : decode cX12_banksFor 54 = .ok (.iload 5, 2) := by decide +kernel
theorem dX12_banksFor_56 : decode cX12_banksFor 56 = .ok (.invokevirtual 105, 3) := by decide +kernel
theorem dX12_banksFor_59 : decode cX12_banksFor 59 = .ok (.ireturn, 1) := by decide +kernel
theorem dX12_banksFor_60 : decode cX12_banksFor 60 = .ok (.iinc 5 1, 3) := by decide +kernel
theorem dX12_banksFor_63 : decode cX12_banksFor 63 = .ok (.goto (-39), 3) := by decide +kernel
theorem dX12_banksFor_66 : decode cX12_banksFor 66 = .ok (.aload_n 0, 1) := by decide +kernel
theorem dX12_banksFor_67 : decode cX12_banksFor 67 = .ok (.bipush 8, 2) := by decide +kernel
theorem dX12_banksFor_69 : decode cX12_banksFor 69 = .ok (.invokevirtual 143, 3) := by decide +kernel
theorem dX12_banksFor_72 : decode cX12_banksFor 72 = .ok (.ireturn, 1) := by decide +kernel
def pX12_banksFor_b24 (g : MT) (this : Nat) (p1 : Int32) (p2 : Int32) (p3 : Int32) (k24 : Int32 → CT → Option ((Int32) × CT)) (l5 : Int32) (h : CT) : Option ((Int32) × CT) := if 16 < l5 then bd2 (pX12_refuse g h this 8) fun x4 h2 => (some (x4, h2)) else lt (hR h this 13) fun r5 => (lt (hR h this 4) fun r6 => (nn r6 fun a6 => (tg g a6 3 (nn r5 fun a5 => (tg g a5 9 (bd2 (pX10_stallsAlone g h a5 p1 p2 p3 l5 (hI h a6 7)) fun x11 h9 => (if x11 = 0 then bd2 (pX12_answer g h9 this l5) fun x16 h14 => (some (x16, h14)) else lt (l5 + 1) fun x13 => (k24 x13 h9))))))))
set_option maxRecDepth 10000 in
set_option maxHeartbeats 4000000 in
theorem pX12_banksFor_b24_ok {X : Cx} {G : Gx} {dk : Nat} {g : MT} {r0 : Int32} {h0 : CT} {this : Nat} {p1 : Int32} {p2 : Int32} {p3 : Int32} {k24 : Int32 → CT → Option ((Int32) × CT)} (Z : Zx X G cX12_banksFor RX12 6 dk (some .int) (some (.int r0)) g h0) (hK : 3 ≤ dk) (t0 : gT g this = 11) (hk24 : ∀ (l5 : Int32) (h : CT), k24 l5 h = some (r0, h0) → J X g h 24 [(0, va_rf (some this)), (1, .int p1), (2, .int p2), (3, .int p3), (5, .int l5)] []) (l5 : Int32) (h : CT) (hf : pX12_banksFor_b24 g this p1 p2 p3 k24 l5 h = some (r0, h0)) : J X g h 24 [(0, va_rf (some this)), (1, .int p1), (2, .int p2), (3, .int p3), (5, .int l5)] [] := by
  unfold pX12_banksFor_b24 at hf
  refine J_iload Z.1 4 dX12_banksFor_24 rfl ?_
  refine J_bipush Z.1 (v := 16) (by decide) dX12_banksFor_26 ?_
  refine J_icmp_gt Z.1 66 dX12_banksFor_28 (by decide) (fun c1 => ?_) (fun c1 => ?_)
  · rw [if_pos c1] at hf
    refine J_aload_n Z.1 0 dX12_banksFor_66 rfl rfl ?_
    refine J_bipush Z.1 (v := 8) (by decide) dX12_banksFor_67 ?_
    replace hf := bd2_i hf
    obtain ⟨x4, h2, q3, hf⟩ := hf
    refine J_callV (ci := 10) (as := [.int 8]) (rest := []) (sy := [.int x4]) Z.1 dX12_banksFor_69 cw_X12_143 (pX12_refuse_ok G (dk - 1) (by omega) q3) rfl rfl t0 (zG Z) rfl (by decide) (zF Z (by omega)) (zO Z (by omega) (by decide)) (zM _) Z.2.1 Z.2.1 rfl rfl ?_
    cases hf
    exact J_iret Z.1 Z.2.2.2.2.2 dX12_banksFor_72
  · rw [if_neg c1] at hf
    refine J_aload_n Z.1 0 dX12_banksFor_31 rfl rfl ?_
    refine J_get (v := va_rf (hR h this 13)) Z.1 dX12_banksFor_32 fl_X12_71 t0 rfl ?_
    refine J_tr (fun r5 er5 => ?_)
    replace hf := lt_i hf r5 er5
    refine J_iload_n Z.1 1 dX12_banksFor_35 rfl rfl ?_
    refine J_iload_n Z.1 2 dX12_banksFor_36 rfl rfl ?_
    refine J_iload_n Z.1 3 dX12_banksFor_37 rfl rfl ?_
    refine J_iload Z.1 4 dX12_banksFor_38 rfl ?_
    refine J_aload_n Z.1 0 dX12_banksFor_40 rfl rfl ?_
    refine J_get (v := va_rf (hR h this 4)) Z.1 dX12_banksFor_41 fl_X12_30 t0 rfl ?_
    refine J_tr (fun r6 er6 => ?_)
    replace hf := lt_i hf r6 er6
    replace hf := nn_i hf
    obtain ⟨a6, rfl, hf⟩ := hf
    replace hf := tg_i hf
    obtain ⟨t7, hf⟩ := hf
    refine J_get (v := .int (hI h a6 7)) Z.1 dX12_banksFor_44 fl_X12_199 t7 rfl ?_
    replace hf := nn_i hf
    obtain ⟨a5, rfl, hf⟩ := hf
    replace hf := tg_i hf
    obtain ⟨t8, hf⟩ := hf
    replace hf := bd2_i hf
    obtain ⟨x11, h9, q10, hf⟩ := hf
    refine J_callV (ci := 8) (as := [.int p1, .int p2, .int p3, .int l5, .int (hI h a6 7)]) (rest := []) (sy := [.int x11]) Z.1 dX12_banksFor_47 cw_X12_342 (pX10_stallsAlone_ok G (dk - 1) (by omega) q10) rfl rfl t8 (zG Z) rfl (by decide) (zF Z (by omega)) (zO Z (by omega) (by decide)) (zM _) Z.2.1 Z.2.1 rfl rfl ?_
    refine J_if_ne Z.1 60 dX12_banksFor_50 (by decide) (fun c12 => ?_) (fun c12 => ?_)
    · rw [if_neg c12] at hf
      refine J_iinc Z.1 (v := 1) (lv2 := [(5, .int (l5 + 1)), (0, va_rf (some this)), (1, .int p1), (2, .int p2), (3, .int p3)]) 4 dX12_banksFor_60 rfl (by decide) (zL Z (by decide)) rfl ?_
      obtain ⟨x13, ex13⟩ : ∃ z, z = (l5 + 1) := ⟨_, rfl⟩
      replace hf := lt_i hf x13 ex13
      rw [← ex13]
      refine J_goto Z.1 24 dX12_banksFor_63 (by decide) ?_
      refine J_lv [1, 2, 3, 4, 0] rfl ?_
      exact hk24 _ _ hf
    · rw [if_pos c12] at hf
      refine J_aload_n Z.1 0 dX12_banksFor_53 rfl rfl ?_
      refine J_iload Z.1 4 dX12_banksFor_54 rfl ?_
      replace hf := bd2_i hf
      obtain ⟨x16, h14, q15, hf⟩ := hf
      refine J_callV (ci := 10) (as := [.int l5]) (rest := []) (sy := [.int x16]) Z.1 dX12_banksFor_56 cw_X12_105 (pX12_answer_ok G (dk - 1) (by omega) q15) rfl rfl t0 (zG Z) rfl (by decide) (zF Z (by omega)) (zO Z (by omega) (by decide)) (zM _) Z.2.1 Z.2.1 rfl rfl ?_
      cases hf
      exact J_iret Z.1 Z.2.2.2.2.2 dX12_banksFor_59
def pX12_banksFor_l24 (g : MT) (this : Nat) (p1 : Int32) (p2 : Int32) (p3 : Int32) : Nat → Int32 → CT → Option ((Int32) × CT)
  | 0, _, _ => none
  | n + 1, l5, h => pX12_banksFor_b24 g this p1 p2 p3 (pX12_banksFor_l24 g this p1 p2 p3 n) l5 h
theorem pX12_banksFor_l24_ok {X : Cx} {G : Gx} {dk : Nat} {g : MT} {r0 : Int32} {h0 : CT} {this : Nat} {p1 : Int32} {p2 : Int32} {p3 : Int32} (Z : Zx X G cX12_banksFor RX12 6 dk (some .int) (some (.int r0)) g h0) (hK : 3 ≤ dk) (t0 : gT g this = 11) : ∀ (n : Nat) (l5 : Int32) (h : CT), pX12_banksFor_l24 g this p1 p2 p3 n l5 h = some (r0, h0) → J X g h 24 [(0, va_rf (some this)), (1, .int p1), (2, .int p2), (3, .int p3), (5, .int l5)] [] := by
  intro n
  induction n with
  | zero => intro l5 h hf; cases hf
  | succ n ih => intro l5 h hf; exact pX12_banksFor_b24_ok Z hK t0 ih l5 h hf
def pX12_banksFor (g : MT) (h : CT) (this : Nat) (p1 : Int32) (p2 : Int32) (p3 : Int32) : Option ((Int32) × CT) := tg g this 11 (lt (pX12_aloneTrouble this p1 p2 p3) fun x1 => (if x1 = 0 then pX12_banksFor_l24 g this p1 p2 p3  FUEL 1 h else bd2 (pX12_refuse g h this x1) fun x5 h3 => (some (x5, h3))))
set_option maxRecDepth 10000 in
set_option maxHeartbeats 4000000 in
theorem pX12_banksFor_ok (G : Gx) (dk : Nat) (hK : 3 ≤ dk) {g : MT} {h h0 : CT} {this : Nat} {p1 : Int32} {p2 : Int32} {p3 : Int32} {r0 : Int32} (hf : pX12_banksFor g h this p1 p2 p3 = some (r0, h0)) : Ctr G dk yX12_banksFor cX12_banksFor 6 (some .int) [va_rf (some this), .int p1, .int p2, .int p3] g h (some (.int r0)) g h0 := by
  refine Ctr.ofZ (lv := [(0, va_rf (some this)), (1, .int p1), (2, .int p2), (3, .int p3)]) (by decide +kernel) (by simp [cat_i, cat_l, cat_d, cat_rf]) rfl fun X Z => ?_
  unfold pX12_banksFor at hf
  replace hf := tg_i hf
  obtain ⟨t0, hf⟩ := hf
  refine J_aload_n Z.1 0 dX12_banksFor_0 rfl rfl ?_
  refine J_iload_n Z.1 1 dX12_banksFor_1 rfl rfl ?_
  refine J_iload_n Z.1 2 dX12_banksFor_2 rfl rfl ?_
  refine J_iload_n Z.1 3 dX12_banksFor_3 rfl rfl ?_
  refine J_callV (ci := 10) (as := [.int p1, .int p2, .int p3]) (rest := []) (sy := [.int (pX12_aloneTrouble this p1 p2 p3)]) Z.1 dX12_banksFor_4 cw_X12_339 (pX12_aloneTrouble_ok G (dk - 1) (by omega) g h this p1 p2 p3) rfl rfl t0 (zG Z) rfl (by decide) (zF Z (by omega)) (zO Z (by omega) (by decide)) (zM _) Z.2.1 Z.2.1 rfl rfl ?_
  refine J_ti (fun x1 ex1 => ?_)
  replace hf := lt_i hf x1 ex1
  refine J_istore Z.1 (lv2 := [(4, .int x1), (0, va_rf (some this)), (1, .int p1), (2, .int p2), (3, .int p3)]) dX12_banksFor_7 (zL Z (by decide)) rfl ?_
  refine J_iload Z.1 0 dX12_banksFor_9 rfl ?_
  refine J_if_eq Z.1 21 dX12_banksFor_11 (by decide) (fun c2 => ?_) (fun c2 => ?_)
  · rw [if_pos c2] at hf
    refine J_iconst Z.1 (v := 1) (by decide) dX12_banksFor_21 ?_
    refine J_istore Z.1 (lv2 := [(5, .int 1), (4, .int x1), (0, va_rf (some this)), (1, .int p1), (2, .int p2), (3, .int p3)]) dX12_banksFor_22 (zL Z (by decide)) rfl ?_
    refine J_lv [2, 3, 4, 5, 0] rfl ?_
    exact pX12_banksFor_l24_ok Z hK t0  FUEL _ _ hf
  · rw [if_neg c2] at hf
    refine J_aload_n Z.1 1 dX12_banksFor_14 rfl rfl ?_
    refine J_iload Z.1 0 dX12_banksFor_15 rfl ?_
    replace hf := bd2_i hf
    obtain ⟨x5, h3, q4, hf⟩ := hf
    refine J_callV (ci := 10) (as := [.int x1]) (rest := []) (sy := [.int x5]) Z.1 dX12_banksFor_17 cw_X12_143 (pX12_refuse_ok G (dk - 1) (by omega) q4) rfl rfl t0 (zG Z) rfl (by decide) (zF Z (by omega)) (zO Z (by omega) (by decide)) (zM _) Z.2.1 Z.2.1 rfl rfl ?_
    cases hf
    exact J_iret Z.1 Z.2.2.2.2.2 dX12_banksFor_20
theorem dX12_worst_0 : decode cX12_worst 0 = .ok (.aload_n 0, 1) := by decide +kernel
theorem dX12_worst_1 : decode cX12_worst 1 = .ok (.iload_n 1, 1) := by decide +kernel
theorem dX12_worst_2 : decode cX12_worst 2 = .ok (.iconst 1, 1) := by decide +kernel
theorem dX12_worst_3 : decode cX12_worst 3 = .ok (.iload_n 2, 1) := by decide +kernel
theorem dX12_worst_4 : decode cX12_worst 4 = .ok (.invokevirtual 339, 3) := by decide +kernel
theorem dX12_worst_7 : decode cX12_worst 7 = .ok (.istore_n 3, 1) := by decide +kernel
theorem dX12_worst_8 : decode cX12_worst 8 = .ok (.iload_n 3, 1) := by decide +kernel
theorem dX12_worst_9 : decode cX12_worst 9 = .ok (.ifCond .eq 9, 3) := by decide +kernel
theorem dX12_worst_12 : decode cX12_worst 12 = .ok (.aload_n 0, 1) := by decide +kernel
theorem dX12_worst_13 : decode cX12_worst 13 = .ok (.iload_n 3, 1) := by decide +kernel
theorem dX12_worst_14 : decode cX12_worst 14 = .ok (.invokevirtual 143, 3) := by decide +kernel
theorem dX12_worst_17 : decode cX12_worst 17 = .ok (.ireturn, 1) := by decide +kernel
theorem dX12_worst_18 : decode cX12_worst 18 = .ok (.iconst 1, 1) := by decide +kernel
theorem dX12_worst_19 : decode cX12_worst 19 = .ok (.istore 4, 2) := by decide +kernel
theorem dX12_worst_21 : decode cX12_worst 21 = .ok (.iconst (-1), 1) := by decide +kernel
theorem dX12_worst_22 : decode cX12_worst 22 = .ok (.istore 5, 2) := by decide +kernel
theorem dX12_worst_24 : decode cX12_worst 24 = .ok (.iconst 1, 1) := by decide +kernel
theorem dX12_worst_25 : decode cX12_worst 25 = .ok (.istore 6, 2) := by decide +kernel
theorem dX12_worst_27 : decode cX12_worst 27 = .ok (.iload 6, 2) := by decide +kernel
theorem dX12_worst_29 : decode cX12_worst 29 = .ok (.bipush 16, 2) := by decide +kernel
theorem dX12_worst_31 : decode cX12_worst 31 = .ok (.if_icmp .gt 51, 3) := by decide +kernel
theorem dX12_worst_34 : decode cX12_worst 34 = .ok (.aload_n 0, 1) := by decide +kernel
theorem dX12_worst_35 : decode cX12_worst 35 = .ok (.getfield 71, 3) := by decide +kernel
theorem dX12_worst_38 : decode cX12_worst 38 = .ok (.iload_n 1, 1) := by decide +kernel
theorem dX12_worst_39 : decode cX12_worst 39 = .ok (.iload 6, 2) := by decide +kernel
theorem dX12_worst_41 : decode cX12_worst 41 = .ok (.iload_n 2, 1) := by decide +kernel
theorem dX12_worst_42 : decode cX12_worst 42 = .ok (.aload_n 0, 1) := by decide +kernel
theorem dX12_worst_43 : decode cX12_worst 43 = .ok (.getfield 30, 3) := by decide +kernel
theorem dX12_worst_46 : decode cX12_worst 46 = .ok (.getfield 196, 3) := by decide +kernel
theorem dX12_worst_49 : decode cX12_worst 49 = .ok (.aload_n 0, 1) := by decide +kernel
theorem dX12_worst_50 : decode cX12_worst 50 = .ok (.getfield 30, 3) := by decide +kernel
theorem dX12_worst_53 : decode cX12_worst 53 = .ok (.getfield 199, 3) := by decide +kernel
theorem dX12_worst_56 : decode cX12_worst 56 = .ok (.invokevirtual 342, 3) := by decide +kernel
theorem dX12_worst_59 : decode cX12_worst 59 = .ok (.istore 7, 2) := by decide +kernel
theorem dX12_worst_61 : decode cX12_worst 61 = .ok (.iload 7, 2) := by decide +kernel
theorem dX12_worst_63 : decode cX12_worst 63 = .ok (.iload 5, 2) := by decide +kernel
theorem dX12_worst_65 : decode cX12_worst 65 = .ok (.if_icmp .le 11, 3) := by decide +kernel
theorem dX12_worst_68 : decode cX12_worst 68 = .ok (.iload 7, 2) := by decide +kernel
theorem dX12_worst_70 : decode cX12_worst 70 = .ok (.istore 5, 2) := by decide +kernel
theorem dX12_worst_72 : decode cX12_worst 72 = .ok (.iload 6, 2) := by decide +kernel
theorem dX12_worst_74 : decode cX12_worst 74 = .ok (.istore 4, 2) := by decide +kernel
theorem dX12_worst_76 : decode cX12_worst 76 = .ok (.iinc 6 1, 3) := by decide +kernel
theorem dX12_worst_79 : decode cX12_worst 79 = .ok (.goto (-52), 3) := by decide +kernel
theorem dX12_worst_82 : decode cX12_worst 82 = .ok (.aload_n 0, 1) := by decide +kernel
theorem dX12_worst_83 : decode cX12_worst 83 = .ok (.iload 4, 2) := by decide +kernel
theorem dX12_worst_85 : decode cX12_worst 85 = .ok (.invokevirtual 105, 3) := by decide +kernel
theorem dX12_worst_88 : decode cX12_worst 88 = .ok (.ireturn, 1) := by decide +kernel
def pX12_worst_b76 (g : MT) (this : Nat) (p1 : Int32) (p2 : Int32) (k27 : Int32 → Int32 → Int32 → CT → Option ((Int32) × CT)) (l4 : Int32) (l5 : Int32) (l6 : Int32) (h : CT) : Option ((Int32) × CT) := lt (l6 + 1) fun x1 => (k27 l4 l5 x1 h)
set_option maxRecDepth 10000 in
set_option maxHeartbeats 4000000 in
theorem pX12_worst_b76_ok {X : Cx} {G : Gx} {dk : Nat} {g : MT} {r0 : Int32} {h0 : CT} {this : Nat} {p1 : Int32} {p2 : Int32} {k27 : Int32 → Int32 → Int32 → CT → Option ((Int32) × CT)} (Z : Zx X G cX12_worst RX12 8 dk (some .int) (some (.int r0)) g h0) (hK : 3 ≤ dk) (t0 : gT g this = 11) (hk27 : ∀ (l4 : Int32) (l5 : Int32) (l6 : Int32) (h : CT), k27 l4 l5 l6 h = some (r0, h0) → J X g h 27 [(0, va_rf (some this)), (1, .int p1), (2, .int p2), (4, .int l4), (5, .int l5), (6, .int l6)] []) (l4 : Int32) (l5 : Int32) (l6 : Int32) (h : CT) (hf : pX12_worst_b76 g this p1 p2 k27 l4 l5 l6 h = some (r0, h0)) : J X g h 76 [(0, va_rf (some this)), (1, .int p1), (2, .int p2), (4, .int l4), (5, .int l5), (6, .int l6)] [] := by
  unfold pX12_worst_b76 at hf
  refine J_iinc Z.1 (v := 1) (lv2 := [(6, .int (l6 + 1)), (0, va_rf (some this)), (1, .int p1), (2, .int p2), (4, .int l4), (5, .int l5)]) 5 dX12_worst_76 rfl (by decide) (zL Z (by decide)) rfl ?_
  obtain ⟨x1, ex1⟩ : ∃ z, z = (l6 + 1) := ⟨_, rfl⟩
  replace hf := lt_i hf x1 ex1
  rw [← ex1]
  refine J_goto Z.1 27 dX12_worst_79 (by decide) ?_
  refine J_lv [1, 2, 3, 4, 5, 0] rfl ?_
  exact hk27 _ _ _ _ hf
def pX12_worst_b27 (g : MT) (this : Nat) (p1 : Int32) (p2 : Int32) (k27 : Int32 → Int32 → Int32 → CT → Option ((Int32) × CT)) (l4 : Int32) (l5 : Int32) (l6 : Int32) (h : CT) : Option ((Int32) × CT) := if 16 < l6 then bd2 (pX12_answer g h this l4) fun x4 h2 => (some (x4, h2)) else lt (hR h this 13) fun r5 => (lt (hR h this 4) fun r6 => (nn r6 fun a6 => (tg g a6 3 (lt (hR h this 4) fun r8 => (nn r8 fun a8 => (tg g a8 3 (nn r5 fun a5 => (tg g a5 9 (bd2 (pX10_stallsAlone g h a5 p1 l6 p2 (hI h a6 6) (hI h a8 7)) fun x13 h11 => (if x13 ≤ l5 then pX12_worst_b76 g this p1 p2 k27 l4 l5 l6 h11 else pX12_worst_b76 g this p1 p2 k27 l6 x13 l6 h11))))))))))
set_option maxRecDepth 10000 in
set_option maxHeartbeats 4000000 in
theorem pX12_worst_b27_ok {X : Cx} {G : Gx} {dk : Nat} {g : MT} {r0 : Int32} {h0 : CT} {this : Nat} {p1 : Int32} {p2 : Int32} {k27 : Int32 → Int32 → Int32 → CT → Option ((Int32) × CT)} (Z : Zx X G cX12_worst RX12 8 dk (some .int) (some (.int r0)) g h0) (hK : 3 ≤ dk) (t0 : gT g this = 11) (hk27 : ∀ (l4 : Int32) (l5 : Int32) (l6 : Int32) (h : CT), k27 l4 l5 l6 h = some (r0, h0) → J X g h 27 [(0, va_rf (some this)), (1, .int p1), (2, .int p2), (4, .int l4), (5, .int l5), (6, .int l6)] []) (l4 : Int32) (l5 : Int32) (l6 : Int32) (h : CT) (hf : pX12_worst_b27 g this p1 p2 k27 l4 l5 l6 h = some (r0, h0)) : J X g h 27 [(0, va_rf (some this)), (1, .int p1), (2, .int p2), (4, .int l4), (5, .int l5), (6, .int l6)] [] := by
  unfold pX12_worst_b27 at hf
  refine J_iload Z.1 5 dX12_worst_27 rfl ?_
  refine J_bipush Z.1 (v := 16) (by decide) dX12_worst_29 ?_
  refine J_icmp_gt Z.1 82 dX12_worst_31 (by decide) (fun c1 => ?_) (fun c1 => ?_)
  · rw [if_pos c1] at hf
    refine J_aload_n Z.1 0 dX12_worst_82 rfl rfl ?_
    refine J_iload Z.1 3 dX12_worst_83 rfl ?_
    replace hf := bd2_i hf
    obtain ⟨x4, h2, q3, hf⟩ := hf
    refine J_callV (ci := 10) (as := [.int l4]) (rest := []) (sy := [.int x4]) Z.1 dX12_worst_85 cw_X12_105 (pX12_answer_ok G (dk - 1) (by omega) q3) rfl rfl t0 (zG Z) rfl (by decide) (zF Z (by omega)) (zO Z (by omega) (by decide)) (zM _) Z.2.1 Z.2.1 rfl rfl ?_
    cases hf
    exact J_iret Z.1 Z.2.2.2.2.2 dX12_worst_88
  · rw [if_neg c1] at hf
    refine J_aload_n Z.1 0 dX12_worst_34 rfl rfl ?_
    refine J_get (v := va_rf (hR h this 13)) Z.1 dX12_worst_35 fl_X12_71 t0 rfl ?_
    refine J_tr (fun r5 er5 => ?_)
    replace hf := lt_i hf r5 er5
    refine J_iload_n Z.1 1 dX12_worst_38 rfl rfl ?_
    refine J_iload Z.1 5 dX12_worst_39 rfl ?_
    refine J_iload_n Z.1 2 dX12_worst_41 rfl rfl ?_
    refine J_aload_n Z.1 0 dX12_worst_42 rfl rfl ?_
    refine J_get (v := va_rf (hR h this 4)) Z.1 dX12_worst_43 fl_X12_30 t0 rfl ?_
    refine J_tr (fun r6 er6 => ?_)
    replace hf := lt_i hf r6 er6
    replace hf := nn_i hf
    obtain ⟨a6, rfl, hf⟩ := hf
    replace hf := tg_i hf
    obtain ⟨t7, hf⟩ := hf
    refine J_get (v := .int (hI h a6 6)) Z.1 dX12_worst_46 fl_X12_196 t7 rfl ?_
    refine J_aload_n Z.1 0 dX12_worst_49 rfl rfl ?_
    refine J_get (v := va_rf (hR h this 4)) Z.1 dX12_worst_50 fl_X12_30 t0 rfl ?_
    refine J_tr (fun r8 er8 => ?_)
    replace hf := lt_i hf r8 er8
    replace hf := nn_i hf
    obtain ⟨a8, rfl, hf⟩ := hf
    replace hf := tg_i hf
    obtain ⟨t9, hf⟩ := hf
    refine J_get (v := .int (hI h a8 7)) Z.1 dX12_worst_53 fl_X12_199 t9 rfl ?_
    replace hf := nn_i hf
    obtain ⟨a5, rfl, hf⟩ := hf
    replace hf := tg_i hf
    obtain ⟨t10, hf⟩ := hf
    replace hf := bd2_i hf
    obtain ⟨x13, h11, q12, hf⟩ := hf
    refine J_callV (ci := 8) (as := [.int p1, .int l6, .int p2, .int (hI h a6 6), .int (hI h a8 7)]) (rest := []) (sy := [.int x13]) Z.1 dX12_worst_56 cw_X12_342 (pX10_stallsAlone_ok G (dk - 1) (by omega) q12) rfl rfl t10 (zG Z) rfl (by decide) (zF Z (by omega)) (zO Z (by omega) (by decide)) (zM _) Z.2.1 Z.2.1 rfl rfl ?_
    refine J_istore Z.1 (lv2 := [(7, .int x13), (0, va_rf (some this)), (1, .int p1), (2, .int p2), (4, .int l4), (5, .int l5), (6, .int l6)]) dX12_worst_59 (zL Z (by decide)) rfl ?_
    refine J_iload Z.1 0 dX12_worst_61 rfl ?_
    refine J_iload Z.1 5 dX12_worst_63 rfl ?_
    refine J_icmp_le Z.1 76 dX12_worst_65 (by decide) (fun c14 => ?_) (fun c14 => ?_)
    · rw [if_pos c14] at hf
      refine J_lv [1, 2, 3, 4, 5, 6] rfl ?_
      exact pX12_worst_b76_ok Z hK t0 hk27 _ _ _ _ hf
    · rw [if_neg c14] at hf
      refine J_iload Z.1 0 dX12_worst_68 rfl ?_
      refine J_istore Z.1 (lv2 := [(5, .int x13), (7, .int x13), (0, va_rf (some this)), (1, .int p1), (2, .int p2), (4, .int l4), (6, .int l6)]) dX12_worst_70 (zL Z (by decide)) rfl ?_
      refine J_iload Z.1 6 dX12_worst_72 rfl ?_
      refine J_istore Z.1 (lv2 := [(4, .int l6), (5, .int x13), (7, .int x13), (0, va_rf (some this)), (1, .int p1), (2, .int p2), (6, .int l6)]) dX12_worst_74 (zL Z (by decide)) rfl ?_
      refine J_lv [3, 4, 5, 0, 1, 6] rfl ?_
      exact pX12_worst_b76_ok Z hK t0 hk27 _ _ _ _ hf
def pX12_worst_l27 (g : MT) (this : Nat) (p1 : Int32) (p2 : Int32) : Nat → Int32 → Int32 → Int32 → CT → Option ((Int32) × CT)
  | 0, _, _, _, _ => none
  | n + 1, l4, l5, l6, h => pX12_worst_b27 g this p1 p2 (pX12_worst_l27 g this p1 p2 n) l4 l5 l6 h
theorem pX12_worst_l27_ok {X : Cx} {G : Gx} {dk : Nat} {g : MT} {r0 : Int32} {h0 : CT} {this : Nat} {p1 : Int32} {p2 : Int32} (Z : Zx X G cX12_worst RX12 8 dk (some .int) (some (.int r0)) g h0) (hK : 3 ≤ dk) (t0 : gT g this = 11) : ∀ (n : Nat) (l4 : Int32) (l5 : Int32) (l6 : Int32) (h : CT), pX12_worst_l27 g this p1 p2 n l4 l5 l6 h = some (r0, h0) → J X g h 27 [(0, va_rf (some this)), (1, .int p1), (2, .int p2), (4, .int l4), (5, .int l5), (6, .int l6)] [] := by
  intro n
  induction n with
  | zero => intro l4 l5 l6 h hf; cases hf
  | succ n ih => intro l4 l5 l6 h hf; exact pX12_worst_b27_ok Z hK t0 ih l4 l5 l6 h hf
def pX12_worst (g : MT) (h : CT) (this : Nat) (p1 : Int32) (p2 : Int32) : Option ((Int32) × CT) := tg g this 11 (lt (pX12_aloneTrouble this p1 1 p2) fun x1 => (if x1 = 0 then pX12_worst_l27 g this p1 p2  FUEL 1 (-1) 1 h else bd2 (pX12_refuse g h this x1) fun x5 h3 => (some (x5, h3))))
set_option maxRecDepth 10000 in
set_option maxHeartbeats 4000000 in
theorem pX12_worst_ok (G : Gx) (dk : Nat) (hK : 3 ≤ dk) {g : MT} {h h0 : CT} {this : Nat} {p1 : Int32} {p2 : Int32} {r0 : Int32} (hf : pX12_worst g h this p1 p2 = some (r0, h0)) : Ctr G dk yX12_worst cX12_worst 8 (some .int) [va_rf (some this), .int p1, .int p2] g h (some (.int r0)) g h0 := by
  refine Ctr.ofZ (lv := [(0, va_rf (some this)), (1, .int p1), (2, .int p2)]) (by decide +kernel) (by simp [cat_i, cat_l, cat_d, cat_rf]) rfl fun X Z => ?_
  unfold pX12_worst at hf
  replace hf := tg_i hf
  obtain ⟨t0, hf⟩ := hf
  refine J_aload_n Z.1 0 dX12_worst_0 rfl rfl ?_
  refine J_iload_n Z.1 1 dX12_worst_1 rfl rfl ?_
  refine J_iconst Z.1 (v := 1) (by decide) dX12_worst_2 ?_
  refine J_iload_n Z.1 2 dX12_worst_3 rfl rfl ?_
  refine J_callV (ci := 10) (as := [.int p1, .int 1, .int p2]) (rest := []) (sy := [.int (pX12_aloneTrouble this p1 1 p2)]) Z.1 dX12_worst_4 cw_X12_339 (pX12_aloneTrouble_ok G (dk - 1) (by omega) g h this p1 1 p2) rfl rfl t0 (zG Z) rfl (by decide) (zF Z (by omega)) (zO Z (by omega) (by decide)) (zM _) Z.2.1 Z.2.1 rfl rfl ?_
  refine J_ti (fun x1 ex1 => ?_)
  replace hf := lt_i hf x1 ex1
  refine J_istore_n Z.1 (lv2 := [(3, .int x1), (0, va_rf (some this)), (1, .int p1), (2, .int p2)]) dX12_worst_7 rfl (zL Z (by decide)) rfl ?_
  refine J_iload_n Z.1 0 dX12_worst_8 rfl rfl ?_
  refine J_if_eq Z.1 18 dX12_worst_9 (by decide) (fun c2 => ?_) (fun c2 => ?_)
  · rw [if_pos c2] at hf
    refine J_iconst Z.1 (v := 1) (by decide) dX12_worst_18 ?_
    refine J_istore Z.1 (lv2 := [(4, .int 1), (3, .int x1), (0, va_rf (some this)), (1, .int p1), (2, .int p2)]) dX12_worst_19 (zL Z (by decide)) rfl ?_
    refine J_iconst Z.1 (v := (-1)) (by decide) dX12_worst_21 ?_
    refine J_istore Z.1 (lv2 := [(5, .int (-1)), (4, .int 1), (3, .int x1), (0, va_rf (some this)), (1, .int p1), (2, .int p2)]) dX12_worst_22 (zL Z (by decide)) rfl ?_
    refine J_iconst Z.1 (v := 1) (by decide) dX12_worst_24 ?_
    refine J_istore Z.1 (lv2 := [(6, .int 1), (5, .int (-1)), (4, .int 1), (3, .int x1), (0, va_rf (some this)), (1, .int p1), (2, .int p2)]) dX12_worst_25 (zL Z (by decide)) rfl ?_
    refine J_lv [4, 5, 6, 2, 1, 0] rfl ?_
    exact pX12_worst_l27_ok Z hK t0  FUEL _ _ _ _ hf
  · rw [if_neg c2] at hf
    refine J_aload_n Z.1 1 dX12_worst_12 rfl rfl ?_
    refine J_iload_n Z.1 0 dX12_worst_13 rfl rfl ?_
    replace hf := bd2_i hf
    obtain ⟨x5, h3, q4, hf⟩ := hf
    refine J_callV (ci := 10) (as := [.int x1]) (rest := []) (sy := [.int x5]) Z.1 dX12_worst_14 cw_X12_143 (pX12_refuse_ok G (dk - 1) (by omega) q4) rfl rfl t0 (zG Z) rfl (by decide) (zF Z (by omega)) (zO Z (by omega) (by decide)) (zM _) Z.2.1 Z.2.1 rfl rfl ?_
    cases hf
    exact J_iret Z.1 Z.2.2.2.2.2 dX12_worst_17
theorem dX12_depends_0 : decode cX12_depends 0 = .ok (.aload_n 0, 1) := by decide +kernel
theorem dX12_depends_1 : decode cX12_depends 1 = .ok (.iload_n 1, 1) := by decide +kernel
theorem dX12_depends_2 : decode cX12_depends 2 = .ok (.invokevirtual 311, 3) := by decide +kernel
theorem dX12_depends_5 : decode cX12_depends 5 = .ok (.ifCond .eq 11, 3) := by decide +kernel
theorem dX12_depends_8 : decode cX12_depends 8 = .ok (.aload_n 0, 1) := by decide +kernel
theorem dX12_depends_9 : decode cX12_depends 9 = .ok (.iload_n 2, 1) := by decide +kernel
theorem dX12_depends_10 : decode cX12_depends 10 = .ok (.invokevirtual 311, 3) := by decide +kernel
theorem dX12_depends_13 : decode cX12_depends 13 = .ok (.ifCond .ne 9, 3) := by decide +kernel
theorem dX12_depends_16 : decode cX12_depends 16 = .ok (.aload_n 0, 1) := by decide +kernel
theorem dX12_depends_17 : decode cX12_depends 17 = .ok (.iconst 2, 1) := by decide +kernel
theorem dX12_depends_18 : decode cX12_depends 18 = .ok (.invokevirtual 143, 3) := by decide +kernel
theorem dX12_depends_21 : decode cX12_depends 21 = .ok (.ireturn, 1) := by decide +kernel
theorem dX12_depends_22 : decode cX12_depends 22 = .ok (.iload_n 1, 1) := by decide +kernel
theorem dX12_depends_23 : decode cX12_depends 23 = .ok (.iload_n 2, 1) := by decide +kernel
theorem dX12_depends_24 : decode cX12_depends 24 = .ok (.if_icmp .lt 10, 3) := by decide +kernel
theorem dX12_depends_27 : decode cX12_depends 27 = .ok (.aload_n 0, 1) := by decide +kernel
theorem dX12_depends_28 : decode cX12_depends 28 = .ok (.bipush 9, 2) := by decide +kernel
theorem dX12_depends_30 : decode cX12_depends 30 = .ok (.invokevirtual 143, 3) := by decide +kernel
theorem dX12_depends_33 : decode cX12_depends 33 = .ok (.ireturn, 1) := by decide +kernel
theorem dX12_depends_34 : decode cX12_depends 34 = .ok (.aload_n 0, 1) := by decide +kernel
theorem dX12_depends_35 : decode cX12_depends 35 = .ok (.aload_n 0, 1) := by decide +kernel
theorem dX12_depends_36 : decode cX12_depends 36 = .ok (.getfield 30, 3) := by decide +kernel
theorem dX12_depends_39 : decode cX12_depends 39 = .ok (.getfield 178, 3) := by decide +kernel
theorem dX12_depends_42 : decode cX12_depends 42 = .ok (.iload_n 1, 1) := by decide +kernel
theorem dX12_depends_43 : decode cX12_depends 43 = .ok (.iload_n 2, 1) := by decide +kernel
theorem dX12_depends_44 : decode cX12_depends 44 = .ok (.invokevirtual 346, 3) := by decide +kernel
theorem dX12_depends_47 : decode cX12_depends 47 = .ok (.invokevirtual 105, 3) := by decide +kernel
theorem dX12_depends_50 : decode cX12_depends 50 = .ok (.ireturn, 1) := by decide +kernel
def pX12_depends_b16 (E : EC) (g : MT) (this : Nat) (p1 : Int32) (p2 : Int32) (h : CT) : Option ((Int32) × CT) := bd2 (pX12_refuse g h this 2) fun x3 h1 => (some (x3, h1))
set_option maxRecDepth 10000 in
set_option maxHeartbeats 4000000 in
theorem pX12_depends_b16_ok {X : Cx} {G : Gx} {dk : Nat} {g : MT} {r0 : Int32} {h0 : CT} {this : Nat} {p1 : Int32} {p2 : Int32} (Z : Zx X G cX12_depends RX12 3 dk (some .int) (some (.int r0)) g h0) (hK : 4 ≤ dk) {E : EC} (hE : G.2.2.2 = E) (t0 : gT g this = 11) (h : CT) (hf : pX12_depends_b16 E g this p1 p2 h = some (r0, h0)) : J X g h 16 [(0, va_rf (some this))] [] := by
  unfold pX12_depends_b16 at hf
  refine J_aload_n Z.1 0 dX12_depends_16 rfl rfl ?_
  refine J_iconst Z.1 (v := 2) (by decide) dX12_depends_17 ?_
  replace hf := bd2_i hf
  obtain ⟨x3, h1, q2, hf⟩ := hf
  refine J_callV (ci := 10) (as := [.int 2]) (rest := []) (sy := [.int x3]) Z.1 dX12_depends_18 cw_X12_143 (pX12_refuse_ok G (dk - 1) (by omega) q2) rfl rfl t0 (zG Z) rfl (by decide) (zF Z (by omega)) (zO Z (by omega) (by decide)) (zM _) Z.2.1 Z.2.1 rfl rfl ?_
  cases hf
  exact J_iret Z.1 Z.2.2.2.2.2 dX12_depends_21
def pX12_depends (E : EC) (g : MT) (h : CT) (this : Nat) (p1 : Int32) (p2 : Int32) : Option ((Int32) × CT) := tg g this 11 (bd (pX12_isInstruction g h this p1) fun x1 => (if x1 = 0 then pX12_depends_b16 E g this p1 p2  h else bd (pX12_isInstruction g h this p2) fun x4 => (if x4 = 0 then pX12_depends_b16 E g this p1 p2  h else if p1 < p2 then lt (hR h this 4) fun r8 => (nn r8 fun a8 => (tg g a8 3 (lt (hR h a8 8) fun r10 => (nn r10 fun a10 => (tg g a10 6 (bd (pX7_ties E g h a10 p1 p2) fun x12 => (bd2 (pX12_answer g h this x12) fun x16 h14 => (some (x16, h14))))))))) else bd2 (pX12_refuse g h this 9) fun x19 h17 => (some (x19, h17)))))
set_option maxRecDepth 10000 in
set_option maxHeartbeats 4000000 in
theorem pX12_depends_ok (G : Gx) (dk : Nat) (hK : 4 ≤ dk) {g : MT} {E : EC} (hE : G.2.2.2 = E) {h h0 : CT} {this : Nat} {p1 : Int32} {p2 : Int32} {r0 : Int32} (hf : pX12_depends E g h this p1 p2 = some (r0, h0)) : Ctr G dk yX12_depends cX12_depends 3 (some .int) [va_rf (some this), .int p1, .int p2] g h (some (.int r0)) g h0 := by
  refine Ctr.ofZ (lv := [(0, va_rf (some this)), (1, .int p1), (2, .int p2)]) (by decide +kernel) (by simp [cat_i, cat_l, cat_d, cat_rf]) rfl fun X Z => ?_
  unfold pX12_depends at hf
  replace hf := tg_i hf
  obtain ⟨t0, hf⟩ := hf
  refine J_aload_n Z.1 0 dX12_depends_0 rfl rfl ?_
  refine J_iload_n Z.1 1 dX12_depends_1 rfl rfl ?_
  replace hf := bd_i hf
  obtain ⟨x1, q2, hf⟩ := hf
  refine J_callV (ci := 10) (as := [.int p1]) (rest := []) (sy := [.int x1]) Z.1 dX12_depends_2 cw_X12_311 (pX12_isInstruction_ok G (dk - 1) (by omega) q2) rfl rfl t0 (zG Z) rfl (by decide) (zF Z (by omega)) (zO Z (by omega) (by decide)) (zM _) Z.2.1 Z.2.1 rfl rfl ?_
  refine J_if_eq Z.1 16 dX12_depends_5 (by decide) (fun c3 => ?_) (fun c3 => ?_)
  · rw [if_pos c3] at hf
    refine J_lv [0] rfl ?_
    exact pX12_depends_b16_ok Z hK hE t0  _ hf
  · rw [if_neg c3] at hf
    refine J_aload_n Z.1 0 dX12_depends_8 rfl rfl ?_
    refine J_iload_n Z.1 2 dX12_depends_9 rfl rfl ?_
    replace hf := bd_i hf
    obtain ⟨x4, q5, hf⟩ := hf
    refine J_callV (ci := 10) (as := [.int p2]) (rest := []) (sy := [.int x4]) Z.1 dX12_depends_10 cw_X12_311 (pX12_isInstruction_ok G (dk - 1) (by omega) q5) rfl rfl t0 (zG Z) rfl (by decide) (zF Z (by omega)) (zO Z (by omega) (by decide)) (zM _) Z.2.1 Z.2.1 rfl rfl ?_
    refine J_if_ne Z.1 22 dX12_depends_13 (by decide) (fun c6 => ?_) (fun c6 => ?_)
    · rw [if_neg c6] at hf
      refine J_iload_n Z.1 1 dX12_depends_22 rfl rfl ?_
      refine J_iload_n Z.1 2 dX12_depends_23 rfl rfl ?_
      refine J_icmp_lt Z.1 34 dX12_depends_24 (by decide) (fun c7 => ?_) (fun c7 => ?_)
      · rw [if_pos c7] at hf
        refine J_aload_n Z.1 0 dX12_depends_34 rfl rfl ?_
        refine J_aload_n Z.1 0 dX12_depends_35 rfl rfl ?_
        refine J_get (v := va_rf (hR h this 4)) Z.1 dX12_depends_36 fl_X12_30 t0 rfl ?_
        refine J_tr (fun r8 er8 => ?_)
        replace hf := lt_i hf r8 er8
        replace hf := nn_i hf
        obtain ⟨a8, rfl, hf⟩ := hf
        replace hf := tg_i hf
        obtain ⟨t9, hf⟩ := hf
        refine J_get (v := va_rf (hR h a8 8)) Z.1 dX12_depends_39 fl_X12_178 t9 rfl ?_
        refine J_tr (fun r10 er10 => ?_)
        replace hf := lt_i hf r10 er10
        refine J_iload_n Z.1 1 dX12_depends_42 rfl rfl ?_
        refine J_iload_n Z.1 2 dX12_depends_43 rfl rfl ?_
        replace hf := nn_i hf
        obtain ⟨a10, rfl, hf⟩ := hf
        replace hf := tg_i hf
        obtain ⟨t11, hf⟩ := hf
        replace hf := bd_i hf
        obtain ⟨x12, q13, hf⟩ := hf
        refine J_callV (ci := 5) (as := [.int p1, .int p2]) (rest := [va_rf (some this)]) (sy := [.int x12, va_rf (some this)]) Z.1 dX12_depends_44 cw_X12_346 (pX7_ties_ok G (dk - 1) (by omega) hE q13) rfl rfl t11 (zG Z) rfl (by simp [cat_i, cat_l, cat_d, cat_rf]) (zF Z (by omega)) (zO Z (by omega) (by decide)) (zM _) Z.2.1 Z.2.1 rfl rfl ?_
        replace hf := bd2_i hf
        obtain ⟨x16, h14, q15, hf⟩ := hf
        refine J_callV (ci := 10) (as := [.int x12]) (rest := []) (sy := [.int x16]) Z.1 dX12_depends_47 cw_X12_105 (pX12_answer_ok G (dk - 1) (by omega) q15) rfl rfl t0 (zG Z) rfl (by decide) (zF Z (by omega)) (zO Z (by omega) (by decide)) (zM _) Z.2.1 Z.2.1 rfl rfl ?_
        cases hf
        exact J_iret Z.1 Z.2.2.2.2.2 dX12_depends_50
      · rw [if_neg c7] at hf
        refine J_aload_n Z.1 0 dX12_depends_27 rfl rfl ?_
        refine J_bipush Z.1 (v := 9) (by decide) dX12_depends_28 ?_
        replace hf := bd2_i hf
        obtain ⟨x19, h17, q18, hf⟩ := hf
        refine J_callV (ci := 10) (as := [.int 9]) (rest := []) (sy := [.int x19]) Z.1 dX12_depends_30 cw_X12_143 (pX12_refuse_ok G (dk - 1) (by omega) q18) rfl rfl t0 (zG Z) rfl (by decide) (zF Z (by omega)) (zO Z (by omega) (by decide)) (zM _) Z.2.1 Z.2.1 rfl rfl ?_
        cases hf
        exact J_iret Z.1 Z.2.2.2.2.2 dX12_depends_33
    · rw [if_pos c6] at hf
      refine J_lv [0] rfl ?_
      exact pX12_depends_b16_ok Z hK hE t0  _ hf
theorem dX12_mark_0 : decode cX12_mark 0 = .ok (.aload_n 0, 1) := by decide +kernel
theorem dX12_mark_1 : decode cX12_mark 1 = .ok (.getfield 363, 3) := by decide +kernel
theorem dX12_mark_4 : decode cX12_mark 4 = .ok (.iconst 0, 1) := by decide +kernel
theorem dX12_mark_5 : decode cX12_mark 5 = .ok (.iconst 2, 1) := by decide +kernel
theorem dX12_mark_6 : decode cX12_mark 6 = .ok (.invokestatic 109, 3) := by decide +kernel
theorem dX12_mark_9 : decode cX12_mark 9 = .ok (.ifCond .ne 10, 3) := by decide +kernel
theorem dX12_mark_12 : decode cX12_mark 12 = .ok (.aload_n 0, 1) := by decide +kernel
theorem dX12_mark_13 : decode cX12_mark 13 = .ok (.bipush 7, 2) := by decide +kernel
theorem dX12_mark_15 : decode cX12_mark 15 = .ok (.invokevirtual 143, 3) := by decide +kernel
theorem dX12_mark_18 : decode cX12_mark 18 = .ok (.ireturn, 1) := by decide +kernel
theorem dX12_mark_19 : decode cX12_mark 19 = .ok (.aload_n 0, 1) := by decide +kernel
theorem dX12_mark_20 : decode cX12_mark 20 = .ok (.getfield 34, 3) := by decide +kernel
theorem dX12_mark_23 : decode cX12_mark 23 = .ok (.aload_n 0, 1) := by decide +kernel
theorem dX12_mark_24 : decode cX12_mark 24 = .ok (.getfield 363, 3) := by decide +kernel
theorem dX12_mark_27 : decode cX12_mark 27 = .ok (.aaload, 1) := by decide +kernel
theorem dX12_mark_28 : decode cX12_mark 28 = .ok (.aload_n 0, 1) := by decide +kernel
theorem dX12_mark_29 : decode cX12_mark 29 = .ok (.getfield 30, 3) := by decide +kernel
theorem dX12_mark_32 : decode cX12_mark 32 = .ok (.invokevirtual 355, 3) := by decide +kernel
theorem dX12_mark_35 : decode cX12_mark 35 = .ok (.aload_n 0, 1) := by decide +kernel
theorem dX12_mark_36 : decode cX12_mark 36 = .ok (.dup, 1) := by decide +kernel
theorem dX12_mark_37 : decode cX12_mark 37 = .ok (.getfield 363, 3) := by decide +kernel
theorem dX12_mark_40 : decode cX12_mark 40 = .ok (.iconst 1, 1) := by decide +kernel
theorem dX12_mark_41 : decode cX12_mark 41 = .ok (.iadd, 1) := by decide +kernel
theorem dX12_mark_42 : decode cX12_mark 42 = .ok (.putfield 363, 3) := by decide +kernel
theorem dX12_mark_45 : decode cX12_mark 45 = .ok (.aload_n 0, 1) := by decide +kernel
theorem dX12_mark_46 : decode cX12_mark 46 = .ok (.aload_n 0, 1) := by decide +kernel
theorem dX12_mark_47 : decode cX12_mark 47 = .ok (.getfield 363, 3) := by decide +kernel
theorem dX12_mark_50 : decode cX12_mark 50 = .ok (.invokevirtual 105, 3) := by decide +kernel
theorem dX12_mark_53 : decode cX12_mark 53 = .ok (.ireturn, 1) := by decide +kernel
def pX12_mark (g : MT) (h : CT) (this : Nat) : Option ((Int32) × CT) := tg g this 11 (if (pX12_within (hI h this 6) 0 2) = 0 then bd2 (pX12_refuse g h this 7) fun x16 h14 => (some (x16, h14)) else lt (hR h this 5) fun r2 => (nn r2 fun a2 => (tg g a2 26 (ix (gL g a2) (hI h this 6) (lt (hR h a2 (Int32.toNatClampNeg (hI h this 6))) fun r5 => (lt (hR h this 4) fun r6 => (nn r5 fun a5 => (tg g a5 3 (nn r6 fun a6 => (bd (pX3_copyFrom g h a5 a6) fun h8 => (lt (sI h8 this 6 ((hI h8 this 6) + 1)) fun h10 => (bd2 (pX12_answer g h10 this (hI h10 this 6)) fun x13 h11 => (some (x13, h11))))))))))))))
set_option maxRecDepth 10000 in
set_option maxHeartbeats 4000000 in
theorem pX12_mark_ok (G : Gx) (dk : Nat) (hK : 3 ≤ dk) {g : MT} {h h0 : CT} {this : Nat} {r0 : Int32} (hf : pX12_mark g h this = some (r0, h0)) : Ctr G dk yX12_mark cX12_mark 1 (some .int) [va_rf (some this)] g h (some (.int r0)) g h0 := by
  refine Ctr.ofZ (lv := [(0, va_rf (some this))]) (by decide +kernel) (by simp [cat_i, cat_l, cat_d, cat_rf]) rfl fun X Z => ?_
  unfold pX12_mark at hf
  replace hf := tg_i hf
  obtain ⟨t0, hf⟩ := hf
  refine J_aload_n Z.1 0 dX12_mark_0 rfl rfl ?_
  refine J_get (v := .int (hI h this 6)) Z.1 dX12_mark_1 fl_X12_363 t0 rfl ?_
  refine J_iconst Z.1 (v := 0) (by decide) dX12_mark_4 ?_
  refine J_iconst Z.1 (v := 2) (by decide) dX12_mark_5 ?_
  refine J_callS (as := [.int (hI h this 6), .int 0, .int 2]) (rest := []) (sy := [.int (pX12_within (hI h this 6) 0 2)]) Z.1 dX12_mark_6 cw_X12_109 (pX12_within_ok G (dk - 1) (by omega) g h (hI h this 6) 0 2) (zG Z) rfl (by decide) (zF Z (by omega)) (zO Z (by omega) (by decide)) (zM _) Z.2.1 Z.2.1 rfl rfl ?_
  refine J_if_ne Z.1 19 dX12_mark_9 (by decide) (fun c1 => ?_) (fun c1 => ?_)
  · rw [if_neg c1] at hf
    refine J_aload_n Z.1 0 dX12_mark_19 rfl rfl ?_
    refine J_get (v := va_rf (hR h this 5)) Z.1 dX12_mark_20 fl_X12_34 t0 rfl ?_
    refine J_tr (fun r2 er2 => ?_)
    replace hf := lt_i hf r2 er2
    refine J_aload_n Z.1 0 dX12_mark_23 rfl rfl ?_
    refine J_get (v := .int (hI h this 6)) Z.1 dX12_mark_24 fl_X12_363 t0 rfl ?_
    replace hf := nn_i hf
    obtain ⟨a2, rfl, hf⟩ := hf
    replace hf := tg_i hf
    obtain ⟨t3, hf⟩ := hf
    replace hf := ix_i hf
    obtain ⟨i4, hf⟩ := hf
    refine J_aaload (t := 6) Z.1 dX12_mark_27 t3 rfl i4 ?_
    refine J_tr (fun r5 er5 => ?_)
    replace hf := lt_i hf r5 er5
    refine J_aload_n Z.1 0 dX12_mark_28 rfl rfl ?_
    refine J_get (v := va_rf (hR h this 4)) Z.1 dX12_mark_29 fl_X12_30 t0 rfl ?_
    refine J_tr (fun r6 er6 => ?_)
    replace hf := lt_i hf r6 er6
    replace hf := nn_i hf
    obtain ⟨a5, rfl, hf⟩ := hf
    replace hf := tg_i hf
    obtain ⟨t7, hf⟩ := hf
    replace hf := nn_i hf
    obtain ⟨a6, rfl, hf⟩ := hf
    replace hf := bd_i hf
    obtain ⟨h8, q9, hf⟩ := hf
    refine J_callV (ci := 2) (as := [va_rf (some a6)]) (rest := []) (sy := []) Z.1 dX12_mark_32 cw_X12_355 (pX3_copyFrom_ok G (dk - 1) (by omega) q9) rfl rfl t7 (zG Z) rfl (by decide) (zF Z (by omega)) (zO Z (by omega) (by decide)) (zM _) Z.2.1 Z.2.1 rfl rfl ?_
    refine J_aload_n Z.1 0 dX12_mark_35 rfl rfl ?_
    refine J_dup Z.1 dX12_mark_36 rfl ?_
    refine J_get (v := .int (hI h8 this 6)) Z.1 dX12_mark_37 fl_X12_363 t0 rfl ?_
    refine J_iconst Z.1 (v := 1) (by decide) dX12_mark_40 ?_
    refine J_iadd Z.1 dX12_mark_41 ?_
    refine J_putI Z.1 dX12_mark_42 fl_X12_363 (fun q => by cases q) t0 rfl rfl (congrArg Value.int (hI_s _ _ _ _)) ?_
    refine J_th (fun h10 eh10 => ?_)
    replace hf := lt_i hf h10 eh10
    refine J_aload_n Z.1 0 dX12_mark_45 rfl rfl ?_
    refine J_aload_n Z.1 0 dX12_mark_46 rfl rfl ?_
    refine J_get (v := .int (hI h10 this 6)) Z.1 dX12_mark_47 fl_X12_363 t0 rfl ?_
    replace hf := bd2_i hf
    obtain ⟨x13, h11, q12, hf⟩ := hf
    refine J_callV (ci := 10) (as := [.int (hI h10 this 6)]) (rest := []) (sy := [.int x13]) Z.1 dX12_mark_50 cw_X12_105 (pX12_answer_ok G (dk - 1) (by omega) q12) rfl rfl t0 (zG Z) rfl (by decide) (zF Z (by omega)) (zO Z (by omega) (by decide)) (zM _) Z.2.1 Z.2.1 rfl rfl ?_
    cases hf
    exact J_iret Z.1 Z.2.2.2.2.2 dX12_mark_53
  · rw [if_pos c1] at hf
    refine J_aload_n Z.1 0 dX12_mark_12 rfl rfl ?_
    refine J_bipush Z.1 (v := 7) (by decide) dX12_mark_13 ?_
    replace hf := bd2_i hf
    obtain ⟨x16, h14, q15, hf⟩ := hf
    refine J_callV (ci := 10) (as := [.int 7]) (rest := []) (sy := [.int x16]) Z.1 dX12_mark_15 cw_X12_143 (pX12_refuse_ok G (dk - 1) (by omega) q15) rfl rfl t0 (zG Z) rfl (by decide) (zF Z (by omega)) (zO Z (by omega) (by decide)) (zM _) Z.2.1 Z.2.1 rfl rfl ?_
    cases hf
    exact J_iret Z.1 Z.2.2.2.2.2 dX12_mark_18
theorem dX12_back_0 : decode cX12_back 0 = .ok (.aload_n 0, 1) := by decide +kernel
theorem dX12_back_1 : decode cX12_back 1 = .ok (.getfield 363, 3) := by decide +kernel
theorem dX12_back_4 : decode cX12_back 4 = .ok (.iconst 1, 1) := by decide +kernel
theorem dX12_back_5 : decode cX12_back 5 = .ok (.iconst 3, 1) := by decide +kernel
theorem dX12_back_6 : decode cX12_back 6 = .ok (.invokestatic 109, 3) := by decide +kernel
theorem dX12_back_9 : decode cX12_back 9 = .ok (.ifCond .ne 10, 3) := by decide +kernel
theorem dX12_back_12 : decode cX12_back 12 = .ok (.aload_n 0, 1) := by decide +kernel
theorem dX12_back_13 : decode cX12_back 13 = .ok (.bipush 8, 2) := by decide +kernel
theorem dX12_back_15 : decode cX12_back 15 = .ok (.invokevirtual 143, 3) := by decide +kernel
theorem dX12_back_18 : decode cX12_back 18 = .ok (.ireturn, 1) := by decide +kernel
theorem dX12_back_19 : decode cX12_back 19 = .ok (.aload_n 0, 1) := by decide +kernel
theorem dX12_back_20 : decode cX12_back 20 = .ok (.dup, 1) := by decide +kernel
theorem dX12_back_21 : decode cX12_back 21 = .ok (.getfield 363, 3) := by decide +kernel
theorem dX12_back_24 : decode cX12_back 24 = .ok (.iconst 1, 1) := by decide +kernel
theorem dX12_back_25 : decode cX12_back 25 = .ok (.isub, 1) := by decide +kernel
theorem dX12_back_26 : decode cX12_back 26 = .ok (.putfield 363, 3) := by decide +kernel
theorem dX12_back_29 : decode cX12_back 29 = .ok (.aload_n 0, 1) := by decide +kernel
theorem dX12_back_30 : decode cX12_back 30 = .ok (.getfield 30, 3) := by decide +kernel
theorem dX12_back_33 : decode cX12_back 33 = .ok (.aload_n 0, 1) := by decide +kernel
theorem dX12_back_34 : decode cX12_back 34 = .ok (.getfield 34, 3) := by decide +kernel
theorem dX12_back_37 : decode cX12_back 37 = .ok (.aload_n 0, 1) := by decide +kernel
theorem dX12_back_38 : decode cX12_back 38 = .ok (.getfield 363, 3) := by decide +kernel
theorem dX12_back_41 : decode cX12_back 41 = .ok (.aaload, 1) := by decide +kernel
theorem dX12_back_42 : decode cX12_back 42 = .ok (.invokevirtual 355, 3) := by decide +kernel
theorem dX12_back_45 : decode cX12_back 45 = .ok (.aload_n 0, 1) := by decide +kernel
theorem dX12_back_46 : decode cX12_back 46 = .ok (.iconst 0, 1) := by decide +kernel
theorem dX12_back_47 : decode cX12_back 47 = .ok (.putfield 181, 3) := by decide +kernel
theorem dX12_back_50 : decode cX12_back 50 = .ok (.aload_n 0, 1) := by decide +kernel
theorem dX12_back_51 : decode cX12_back 51 = .ok (.aload_n 0, 1) := by decide +kernel
theorem dX12_back_52 : decode cX12_back 52 = .ok (.getfield 363, 3) := by decide +kernel
theorem dX12_back_55 : decode cX12_back 55 = .ok (.invokevirtual 105, 3) := by decide +kernel
theorem dX12_back_58 : decode cX12_back 58 = .ok (.ireturn, 1) := by decide +kernel
def pX12_back (g : MT) (h : CT) (this : Nat) : Option ((Int32) × CT) := tg g this 11 (if (pX12_within (hI h this 6) 1 3) = 0 then bd2 (pX12_refuse g h this 8) fun x17 h15 => (some (x17, h15)) else lt (sI h this 6 ((hI h this 6) - 1)) fun h2 => (lt (hR h2 this 4) fun r3 => (lt (hR h2 this 5) fun r4 => (nn r4 fun a4 => (tg g a4 26 (ix (gL g a4) (hI h2 this 6) (lt (hR h2 a4 (Int32.toNatClampNeg (hI h2 this 6))) fun r7 => (nn r3 fun a3 => (tg g a3 3 (nn r7 fun a7 => (bd (pX3_copyFrom g h2 a3 a7) fun h9 => (lt (sI h9 this 10 0) fun h11 => (bd2 (pX12_answer g h11 this (hI h11 this 6)) fun x14 h12 => (some (x14, h12)))))))))))))))
set_option maxRecDepth 10000 in
set_option maxHeartbeats 4000000 in
theorem pX12_back_ok (G : Gx) (dk : Nat) (hK : 3 ≤ dk) {g : MT} {h h0 : CT} {this : Nat} {r0 : Int32} (hf : pX12_back g h this = some (r0, h0)) : Ctr G dk yX12_back cX12_back 1 (some .int) [va_rf (some this)] g h (some (.int r0)) g h0 := by
  refine Ctr.ofZ (lv := [(0, va_rf (some this))]) (by decide +kernel) (by simp [cat_i, cat_l, cat_d, cat_rf]) rfl fun X Z => ?_
  unfold pX12_back at hf
  replace hf := tg_i hf
  obtain ⟨t0, hf⟩ := hf
  refine J_aload_n Z.1 0 dX12_back_0 rfl rfl ?_
  refine J_get (v := .int (hI h this 6)) Z.1 dX12_back_1 fl_X12_363 t0 rfl ?_
  refine J_iconst Z.1 (v := 1) (by decide) dX12_back_4 ?_
  refine J_iconst Z.1 (v := 3) (by decide) dX12_back_5 ?_
  refine J_callS (as := [.int (hI h this 6), .int 1, .int 3]) (rest := []) (sy := [.int (pX12_within (hI h this 6) 1 3)]) Z.1 dX12_back_6 cw_X12_109 (pX12_within_ok G (dk - 1) (by omega) g h (hI h this 6) 1 3) (zG Z) rfl (by decide) (zF Z (by omega)) (zO Z (by omega) (by decide)) (zM _) Z.2.1 Z.2.1 rfl rfl ?_
  refine J_if_ne Z.1 19 dX12_back_9 (by decide) (fun c1 => ?_) (fun c1 => ?_)
  · rw [if_neg c1] at hf
    refine J_aload_n Z.1 0 dX12_back_19 rfl rfl ?_
    refine J_dup Z.1 dX12_back_20 rfl ?_
    refine J_get (v := .int (hI h this 6)) Z.1 dX12_back_21 fl_X12_363 t0 rfl ?_
    refine J_iconst Z.1 (v := 1) (by decide) dX12_back_24 ?_
    refine J_isub Z.1 dX12_back_25 ?_
    refine J_putI Z.1 dX12_back_26 fl_X12_363 (fun q => by cases q) t0 rfl rfl (congrArg Value.int (hI_s _ _ _ _)) ?_
    refine J_th (fun h2 eh2 => ?_)
    replace hf := lt_i hf h2 eh2
    refine J_aload_n Z.1 0 dX12_back_29 rfl rfl ?_
    refine J_get (v := va_rf (hR h2 this 4)) Z.1 dX12_back_30 fl_X12_30 t0 rfl ?_
    refine J_tr (fun r3 er3 => ?_)
    replace hf := lt_i hf r3 er3
    refine J_aload_n Z.1 0 dX12_back_33 rfl rfl ?_
    refine J_get (v := va_rf (hR h2 this 5)) Z.1 dX12_back_34 fl_X12_34 t0 rfl ?_
    refine J_tr (fun r4 er4 => ?_)
    replace hf := lt_i hf r4 er4
    refine J_aload_n Z.1 0 dX12_back_37 rfl rfl ?_
    refine J_get (v := .int (hI h2 this 6)) Z.1 dX12_back_38 fl_X12_363 t0 rfl ?_
    replace hf := nn_i hf
    obtain ⟨a4, rfl, hf⟩ := hf
    replace hf := tg_i hf
    obtain ⟨t5, hf⟩ := hf
    replace hf := ix_i hf
    obtain ⟨i6, hf⟩ := hf
    refine J_aaload (t := 6) Z.1 dX12_back_41 t5 rfl i6 ?_
    refine J_tr (fun r7 er7 => ?_)
    replace hf := lt_i hf r7 er7
    replace hf := nn_i hf
    obtain ⟨a3, rfl, hf⟩ := hf
    replace hf := tg_i hf
    obtain ⟨t8, hf⟩ := hf
    replace hf := nn_i hf
    obtain ⟨a7, rfl, hf⟩ := hf
    replace hf := bd_i hf
    obtain ⟨h9, q10, hf⟩ := hf
    refine J_callV (ci := 2) (as := [va_rf (some a7)]) (rest := []) (sy := []) Z.1 dX12_back_42 cw_X12_355 (pX3_copyFrom_ok G (dk - 1) (by omega) q10) rfl rfl t8 (zG Z) rfl (by decide) (zF Z (by omega)) (zO Z (by omega) (by decide)) (zM _) Z.2.1 Z.2.1 rfl rfl ?_
    refine J_aload_n Z.1 0 dX12_back_45 rfl rfl ?_
    refine J_iconst Z.1 (v := 0) (by decide) dX12_back_46 ?_
    refine J_putI Z.1 dX12_back_47 fl_X12_181 (fun q => by cases q) t0 (z_n (Or.inl rfl)) (z_f (Or.inl rfl)) (congrArg Value.int (hI_s _ _ _ _)) ?_
    refine J_th (fun h11 eh11 => ?_)
    replace hf := lt_i hf h11 eh11
    refine J_aload_n Z.1 0 dX12_back_50 rfl rfl ?_
    refine J_aload_n Z.1 0 dX12_back_51 rfl rfl ?_
    refine J_get (v := .int (hI h11 this 6)) Z.1 dX12_back_52 fl_X12_363 t0 rfl ?_
    replace hf := bd2_i hf
    obtain ⟨x14, h12, q13, hf⟩ := hf
    refine J_callV (ci := 10) (as := [.int (hI h11 this 6)]) (rest := []) (sy := [.int x14]) Z.1 dX12_back_55 cw_X12_105 (pX12_answer_ok G (dk - 1) (by omega) q13) rfl rfl t0 (zG Z) rfl (by decide) (zF Z (by omega)) (zO Z (by omega) (by decide)) (zM _) Z.2.1 Z.2.1 rfl rfl ?_
    cases hf
    exact J_iret Z.1 Z.2.2.2.2.2 dX12_back_58
  · rw [if_pos c1] at hf
    refine J_aload_n Z.1 0 dX12_back_12 rfl rfl ?_
    refine J_bipush Z.1 (v := 8) (by decide) dX12_back_13 ?_
    replace hf := bd2_i hf
    obtain ⟨x17, h15, q16, hf⟩ := hf
    refine J_callV (ci := 10) (as := [.int 8]) (rest := []) (sy := [.int x17]) Z.1 dX12_back_15 cw_X12_143 (pX12_refuse_ok G (dk - 1) (by omega) q16) rfl rfl t0 (zG Z) rfl (by decide) (zF Z (by omega)) (zO Z (by omega) (by decide)) (zM _) Z.2.1 Z.2.1 rfl rfl ?_
    cases hf
    exact J_iret Z.1 Z.2.2.2.2.2 dX12_back_18
theorem dX4_kind_0 : decode cX4_kind 0 = .ok (.aload_n 0, 1) := by decide +kernel
theorem dX4_kind_1 : decode cX4_kind 1 = .ok (.getfield 13, 3) := by decide +kernel
theorem dX4_kind_4 : decode cX4_kind 4 = .ok (.ifCond .eq 5, 3) := by decide +kernel
theorem dX4_kind_7 : decode cX4_kind 7 = .ok (.iconst 5, 1) := by decide +kernel
theorem dX4_kind_8 : decode cX4_kind 8 = .ok (.ireturn, 1) := by decide +kernel
theorem dX4_kind_9 : decode cX4_kind 9 = .ok (.aload_n 0, 1) := by decide +kernel
theorem dX4_kind_10 : decode cX4_kind 10 = .ok (.getfield 7, 3) := by decide +kernel
theorem dX4_kind_13 : decode cX4_kind 13 = .ok (.dconst 0, 1) := by decide +kernel
theorem dX4_kind_14 : decode cX4_kind 14 = .ok (.dcmp .l, 1) := by decide +kernel
theorem dX4_kind_15 : decode cX4_kind 15 = .ok (.ifCond .ne 19, 3) := by decide +kernel
theorem dX4_kind_18 : decode cX4_kind 18 = .ok (.aload_n 0, 1) := by decide +kernel
theorem dX4_kind_19 : decode cX4_kind 19 = .ok (.getfield 7, 3) := by decide +kernel
theorem dX4_kind_22 : decode cX4_kind 22 = .ok (.invokestatic 30, 3) := by decide +kernel
theorem dX4_kind_25 : decode cX4_kind 25 = .ok (.ifCond .eq 7, 3) := by decide +kernel
theorem dX4_kind_28 : decode cX4_kind 28 = .ok (.iconst 2, 1) := by decide +kernel
theorem dX4_kind_29 : decode cX4_kind 29 = .ok (.goto 4, 3) := by decide +kernel
theorem dX4_kind_32 : decode cX4_kind 32 = .ok (.iconst 1, 1) := by decide +kernel
theorem dX4_kind_33 : decode cX4_kind 33 = .ok (.ireturn, 1) := by decide +kernel
theorem dX4_kind_34 : decode cX4_kind 34 = .ok (.aload_n 0, 1) := by decide +kernel
theorem dX4_kind_35 : decode cX4_kind 35 = .ok (.getfield 7, 3) := by decide +kernel
theorem dX4_kind_38 : decode cX4_kind 38 = .ok (.invokestatic 34, 3) := by decide +kernel
theorem dX4_kind_41 : decode cX4_kind 41 = .ok (.ifCond .eq 18, 3) := by decide +kernel
theorem dX4_kind_44 : decode cX4_kind 44 = .ok (.aload_n 0, 1) := by decide +kernel
theorem dX4_kind_45 : decode cX4_kind 45 = .ok (.getfield 7, 3) := by decide +kernel
theorem dX4_kind_48 : decode cX4_kind 48 = .ok (.dconst 0, 1) := by decide +kernel
theorem dX4_kind_49 : decode cX4_kind 49 = .ok (.dcmp .l, 1) := by decide +kernel
theorem dX4_kind_50 : decode cX4_kind 50 = .ok (.ifCond .le 7, 3) := by decide +kernel
theorem dX4_kind_53 : decode cX4_kind 53 = .ok (.iconst 3, 1) := by decide +kernel
theorem dX4_kind_54 : decode cX4_kind 54 = .ok (.goto 4, 3) := by decide +kernel
theorem dX4_kind_57 : decode cX4_kind 57 = .ok (.iconst 4, 1) := by decide +kernel
theorem dX4_kind_58 : decode cX4_kind 58 = .ok (.ireturn, 1) := by decide +kernel
theorem dX4_kind_59 : decode cX4_kind 59 = .ok (.iconst 0, 1) := by decide +kernel
theorem dX4_kind_60 : decode cX4_kind 60 = .ok (.ireturn, 1) := by decide +kernel
def pX4_kind (g : MT) (h : CT) (this : Nat) : Option Int32 := tg g this 4 (if (hI h this 1) = 0 then if (Op.cmpValue (FP.dcmp (hD h this 0) 0) .l) = 0 then if (pX4_isMinusZero (hD h this 0)) = 0 then some 1 else some 2 else if (pX4_isInfinite (hD h this 0)) = 0 then some 0 else if (Op.cmpValue (FP.dcmp (hD h this 0) 0) .l) ≤ 0 then some 4 else some 3 else some 5)
set_option maxRecDepth 10000 in
set_option maxHeartbeats 4000000 in
theorem pX4_kind_ok (G : Gx) (dk : Nat) (hK : 1 ≤ dk) {g : MT} {h : CT} {this : Nat} {r0 : Int32} (hf : pX4_kind g h this = some r0) : Ctr G dk yX4_kind cX4_kind 1 (some .int) [va_rf (some this)] g h (some (.int r0)) g h := by
  refine Ctr.ofZ (lv := [(0, va_rf (some this))]) (by decide +kernel) (by simp [cat_i, cat_l, cat_d, cat_rf]) rfl fun X Z => ?_
  unfold pX4_kind at hf
  replace hf := tg_i hf
  obtain ⟨t0, hf⟩ := hf
  refine J_aload_n Z.1 0 dX4_kind_0 rfl rfl ?_
  refine J_get (v := .int (hI h this 1)) Z.1 dX4_kind_1 fl_X4_13 t0 rfl ?_
  refine J_if_eq Z.1 9 dX4_kind_4 (by decide) (fun c1 => ?_) (fun c1 => ?_)
  · rw [if_pos c1] at hf
    refine J_aload_n Z.1 0 dX4_kind_9 rfl rfl ?_
    refine J_get (v := .double (hD h this 0)) Z.1 dX4_kind_10 fl_X4_7 t0 rfl ?_
    refine J_dconst0 Z.1 dX4_kind_13 ?_
    refine J_dcmp Z.1 dX4_kind_14 ?_
    refine J_if_ne Z.1 34 dX4_kind_15 (by decide) (fun c2 => ?_) (fun c2 => ?_)
    · rw [if_neg c2] at hf
      refine J_aload_n Z.1 0 dX4_kind_34 rfl rfl ?_
      refine J_get (v := .double (hD h this 0)) Z.1 dX4_kind_35 fl_X4_7 t0 rfl ?_
      refine J_callS (as := [.double (hD h this 0)]) (rest := []) (sy := [.int (pX4_isInfinite (hD h this 0))]) Z.1 dX4_kind_38 cw_X4_34 (pX4_isInfinite_ok G (dk - 1) (by omega) g h (hD h this 0)) (zG Z) rfl (by decide) (zF Z (by omega)) (zO Z (by omega) (by decide)) (zM _) Z.2.1 Z.2.1 rfl rfl ?_
      refine J_if_eq Z.1 59 dX4_kind_41 (by decide) (fun c3 => ?_) (fun c3 => ?_)
      · rw [if_pos c3] at hf
        refine J_iconst Z.1 (v := 0) (by decide) dX4_kind_59 ?_
        cases hf
        exact J_iret Z.1 Z.2.2.2.2.2 dX4_kind_60
      · rw [if_neg c3] at hf
        refine J_aload_n Z.1 0 dX4_kind_44 rfl rfl ?_
        refine J_get (v := .double (hD h this 0)) Z.1 dX4_kind_45 fl_X4_7 t0 rfl ?_
        refine J_dconst0 Z.1 dX4_kind_48 ?_
        refine J_dcmp Z.1 dX4_kind_49 ?_
        refine J_if_le Z.1 57 dX4_kind_50 (by decide) (fun c4 => ?_) (fun c4 => ?_)
        · rw [if_pos c4] at hf
          refine J_iconst Z.1 (v := 4) (by decide) dX4_kind_57 ?_
          cases hf
          exact J_iret Z.1 Z.2.2.2.2.2 dX4_kind_58
        · rw [if_neg c4] at hf
          refine J_iconst Z.1 (v := 3) (by decide) dX4_kind_53 ?_
          refine J_goto Z.1 58 dX4_kind_54 (by decide) ?_
          cases hf
          exact J_iret Z.1 Z.2.2.2.2.2 dX4_kind_58
    · rw [if_pos c2] at hf
      refine J_aload_n Z.1 0 dX4_kind_18 rfl rfl ?_
      refine J_get (v := .double (hD h this 0)) Z.1 dX4_kind_19 fl_X4_7 t0 rfl ?_
      refine J_callS (as := [.double (hD h this 0)]) (rest := []) (sy := [.int (pX4_isMinusZero (hD h this 0))]) Z.1 dX4_kind_22 cw_X4_30 (pX4_isMinusZero_ok G (dk - 1) (by omega) g h (hD h this 0)) (zG Z) rfl (by decide) (zF Z (by omega)) (zO Z (by omega) (by decide)) (zM _) Z.2.1 Z.2.1 rfl rfl ?_
      refine J_if_eq Z.1 32 dX4_kind_25 (by decide) (fun c5 => ?_) (fun c5 => ?_)
      · rw [if_pos c5] at hf
        refine J_iconst Z.1 (v := 1) (by decide) dX4_kind_32 ?_
        cases hf
        exact J_iret Z.1 Z.2.2.2.2.2 dX4_kind_33
      · rw [if_neg c5] at hf
        refine J_iconst Z.1 (v := 2) (by decide) dX4_kind_28 ?_
        refine J_goto Z.1 33 dX4_kind_29 (by decide) ?_
        cases hf
        exact J_iret Z.1 Z.2.2.2.2.2 dX4_kind_33
  · rw [if_neg c1] at hf
    refine J_iconst Z.1 (v := 5) (by decide) dX4_kind_7 ?_
    cases hf
    exact J_iret Z.1 Z.2.2.2.2.2 dX4_kind_8
theorem dX11_keep_0 : decode cX11_keep 0 = .ok (.aload_n 0, 1) := by decide +kernel
theorem dX11_keep_1 : decode cX11_keep 1 = .ok (.iload_n 1, 1) := by decide +kernel
theorem dX11_keep_2 : decode cX11_keep 2 = .ok (.invokevirtual 32, 3) := by decide +kernel
theorem dX11_keep_5 : decode cX11_keep 5 = .ok (.ifCond .eq 14, 3) := by decide +kernel
theorem dX11_keep_8 : decode cX11_keep 8 = .ok (.aload_n 0, 1) := by decide +kernel
theorem dX11_keep_9 : decode cX11_keep 9 = .ok (.getfield 9, 3) := by decide +kernel
theorem dX11_keep_12 : decode cX11_keep 12 = .ok (.iload_n 1, 1) := by decide +kernel
theorem dX11_keep_13 : decode cX11_keep 13 = .ok (.aload_n 0, 1) := by decide +kernel
theorem dX11_keep_14 : decode cX11_keep 14 = .ok (.lload_n 2, 1) := by decide +kernel
theorem dX11_keep_15 : decode cX11_keep 15 = .ok (.invokevirtual 36, 3) := by decide +kernel
theorem dX11_keep_18 : decode cX11_keep 18 = .ok (.lastore, 1) := by decide +kernel
theorem dX11_keep_19 : decode cX11_keep 19 = .ok (.return_, 1) := by decide +kernel
def pX11_keep (g : MT) (h : CT) (this : Nat) (p1 : Int32) (p2 : Int64) : Option CT := tg g this 10 (bd (pX11_has g h this p1) fun x1 => (if x1 = 0 then some h else lt (hR h this 3) fun r4 => (bd (pX11_cut g h this p2) fun x5 => (nn r4 fun a4 => (tg g a4 21 (ix (gL g a4) p1 (lt (sL h a4 (Int32.toNatClampNeg p1) x5) fun h9 => (some h9))))))))
set_option maxRecDepth 10000 in
set_option maxHeartbeats 4000000 in
theorem pX11_keep_ok (G : Gx) (dk : Nat) (hK : 1 ≤ dk) {g : MT} {h h0 : CT} {this : Nat} {p1 : Int32} {p2 : Int64} (hf : pX11_keep g h this p1 p2 = some h0) : Ctr G dk yX11_keep cX11_keep 4 none [va_rf (some this), .int p1, .long p2] g h none g h0 := by
  refine Ctr.ofZ (lv := [(0, va_rf (some this)), (1, .int p1), (2, .long p2)]) (by decide +kernel) (by simp [cat_i, cat_l, cat_d, cat_rf]) rfl fun X Z => ?_
  unfold pX11_keep at hf
  replace hf := tg_i hf
  obtain ⟨t0, hf⟩ := hf
  refine J_aload_n Z.1 0 dX11_keep_0 rfl rfl ?_
  refine J_iload_n Z.1 1 dX11_keep_1 rfl rfl ?_
  replace hf := bd_i hf
  obtain ⟨x1, q2, hf⟩ := hf
  refine J_callV (ci := 9) (as := [.int p1]) (rest := []) (sy := [.int x1]) Z.1 dX11_keep_2 cw_X11_32 (pX11_has_ok G (dk - 1) (by omega) q2) rfl rfl t0 (zG Z) rfl (by decide) (zF Z (by omega)) (zO Z (by omega) (by decide)) (zM _) Z.2.1 Z.2.1 rfl rfl ?_
  refine J_if_eq Z.1 19 dX11_keep_5 (by decide) (fun c3 => ?_) (fun c3 => ?_)
  · rw [if_pos c3] at hf
    cases hf
    exact J_vret Z.1 Z.2.2.2.2.2 dX11_keep_19
  · rw [if_neg c3] at hf
    refine J_aload_n Z.1 0 dX11_keep_8 rfl rfl ?_
    refine J_get (v := va_rf (hR h this 3)) Z.1 dX11_keep_9 fl_X11_9 t0 rfl ?_
    refine J_tr (fun r4 er4 => ?_)
    replace hf := lt_i hf r4 er4
    refine J_iload_n Z.1 1 dX11_keep_12 rfl rfl ?_
    refine J_aload_n Z.1 0 dX11_keep_13 rfl rfl ?_
    refine J_lload_n Z.1 2 dX11_keep_14 rfl rfl ?_
    replace hf := bd_i hf
    obtain ⟨x5, q6, hf⟩ := hf
    refine J_callV (ci := 9) (as := [.long p2]) (rest := [.int p1, va_rf r4]) (sy := [.long x5, .int p1, va_rf r4]) Z.1 dX11_keep_15 cw_X11_36 (pX11_cut_ok G (dk - 1) (by omega) q6) rfl rfl t0 (zG Z) rfl (by simp [cat_i, cat_l, cat_d, cat_rf]) (zF Z (by omega)) (zO Z (by omega) (by decide)) (zM _) Z.2.1 Z.2.1 rfl rfl ?_
    replace hf := nn_i hf
    obtain ⟨a4, rfl, hf⟩ := hf
    replace hf := tg_i hf
    obtain ⟨t7, hf⟩ := hf
    replace hf := ix_i hf
    obtain ⟨i8, hf⟩ := hf
    refine J_lastore Z.1 dX11_keep_18 t7 i8 ?_
    refine J_th (fun h9 eh9 => ?_)
    replace hf := lt_i hf h9 eh9
    cases hf
    exact J_vret Z.1 Z.2.2.2.2.2 dX11_keep_19
theorem dX1_tellKind_0 : decode cX1_tellKind 0 = .ok (.aload_n 1, 1) := by decide +kernel
theorem dX1_tellKind_1 : decode cX1_tellKind 1 = .ok (.invokevirtual 15, 3) := by decide +kernel
theorem dX1_tellKind_4 : decode cX1_tellKind 4 = .ok (.istore_n 2, 1) := by decide +kernel
theorem dX1_tellKind_5 : decode cX1_tellKind 5 = .ok (.aload_n 0, 1) := by decide +kernel
theorem dX1_tellKind_6 : decode cX1_tellKind 6 = .ok (.lconst 0, 1) := by decide +kernel
theorem dX1_tellKind_7 : decode cX1_tellKind 7 = .ok (.putfield 21, 3) := by decide +kernel
theorem dX1_tellKind_10 : decode cX1_tellKind 10 = .ok (.aload_n 0, 1) := by decide +kernel
theorem dX1_tellKind_11 : decode cX1_tellKind 11 = .ok (.iconst 0, 1) := by decide +kernel
theorem dX1_tellKind_12 : decode cX1_tellKind 12 = .ok (.putfield 25, 3) := by decide +kernel
theorem dX1_tellKind_15 : decode cX1_tellKind 15 = .ok (.iload_n 2, 1) := by decide +kernel
theorem dX1_tellKind_16 : decode cX1_tellKind 16 = .ok (.ifCond .ne 74, 3) := by decide +kernel
theorem dX1_tellKind_19 : decode cX1_tellKind 19 = .ok (.aload_n 0, 1) := by decide +kernel
theorem dX1_tellKind_20 : decode cX1_tellKind 20 = .ok (.aload_n 1, 1) := by decide +kernel
theorem dX1_tellKind_21 : decode cX1_tellKind 21 = .ok (.getfield 29, 3) := by decide +kernel
theorem dX1_tellKind_24 : decode cX1_tellKind 24 = .ok (.invokevirtual 33, 3) := by decide +kernel
theorem dX1_tellKind_27 : decode cX1_tellKind 27 = .ok (.iconst 0, 1) := by decide +kernel
theorem dX1_tellKind_28 : decode cX1_tellKind 28 = .ok (.istore_n 3, 1) := by decide +kernel
theorem dX1_tellKind_29 : decode cX1_tellKind 29 = .ok (.iload_n 3, 1) := by decide +kernel
theorem dX1_tellKind_30 : decode cX1_tellKind 30 = .ok (.bipush 64, 2) := by decide +kernel
theorem dX1_tellKind_32 : decode cX1_tellKind 32 = .ok (.if_icmp .ge 42, 3) := by decide +kernel
theorem dX1_tellKind_35 : decode cX1_tellKind 35 = .ok (.aload_n 0, 1) := by decide +kernel
theorem dX1_tellKind_36 : decode cX1_tellKind 36 = .ok (.getfield 37, 3) := by decide +kernel
theorem dX1_tellKind_39 : decode cX1_tellKind 39 = .ok (.lconst 1, 1) := by decide +kernel
theorem dX1_tellKind_40 : decode cX1_tellKind 40 = .ok (.land, 1) := by decide +kernel
theorem dX1_tellKind_41 : decode cX1_tellKind 41 = .ok (.lconst 0, 1) := by decide +kernel
theorem dX1_tellKind_42 : decode cX1_tellKind 42 = .ok (.lcmp, 1) := by decide +kernel
theorem dX1_tellKind_43 : decode cX1_tellKind 43 = .ok (.ifCond .ne 31, 3) := by decide +kernel
theorem dX1_tellKind_46 : decode cX1_tellKind 46 = .ok (.aload_n 0, 1) := by decide +kernel
theorem dX1_tellKind_47 : decode cX1_tellKind 47 = .ok (.aload_n 0, 1) := by decide +kernel
theorem dX1_tellKind_48 : decode cX1_tellKind 48 = .ok (.getfield 37, 3) := by decide +kernel
theorem dX1_tellKind_51 : decode cX1_tellKind 51 = .ok (.ldc2_w 40, 3) := by decide +kernel
theorem dX1_tellKind_54 : decode cX1_tellKind 54 = .ok (.ldiv, 1) := by decide +kernel
theorem dX1_tellKind_55 : decode cX1_tellKind 55 = .ok (.putfield 37, 3) := by decide +kernel
theorem dX1_tellKind_58 : decode cX1_tellKind 58 = .ok (.aload_n 0, 1) := by decide +kernel
theorem dX1_tellKind_59 : decode cX1_tellKind 59 = .ok (.dup, 1) := by decide +kernel
theorem dX1_tellKind_60 : decode cX1_tellKind 60 = .ok (.getfield 42, 3) := by decide +kernel
theorem dX1_tellKind_63 : decode cX1_tellKind 63 = .ok (.iconst 1, 1) := by decide +kernel
theorem dX1_tellKind_64 : decode cX1_tellKind 64 = .ok (.iadd, 1) := by decide +kernel
theorem dX1_tellKind_65 : decode cX1_tellKind 65 = .ok (.putfield 42, 3) := by decide +kernel
theorem dX1_tellKind_68 : decode cX1_tellKind 68 = .ok (.iinc 3 1, 3) := by decide +kernel
theorem dX1_tellKind_71 : decode cX1_tellKind 71 = .ok (.goto (-42), 3) := by decide +kernel
theorem dX1_tellKind_74 : decode cX1_tellKind 74 = .ok (.aload_n 0, 1) := by decide +kernel
theorem dX1_tellKind_75 : decode cX1_tellKind 75 = .ok (.aload_n 0, 1) := by decide +kernel
theorem dX1_tellKind_76 : decode cX1_tellKind 76 = .ok (.getfield 37, 3) := by decide +kernel
theorem dX1_tellKind_79 : decode cX1_tellKind 79 = .ok (.putfield 21, 3) := by decide +kernel
theorem dX1_tellKind_82 : decode cX1_tellKind 82 = .ok (.aload_n 0, 1) := by decide +kernel
theorem dX1_tellKind_83 : decode cX1_tellKind 83 = .ok (.aload_n 0, 1) := by decide +kernel
theorem dX1_tellKind_84 : decode cX1_tellKind 84 = .ok (.getfield 42, 3) := by decide +kernel
theorem dX1_tellKind_87 : decode cX1_tellKind 87 = .ok (.putfield 25, 3) := by decide +kernel
theorem dX1_tellKind_90 : decode cX1_tellKind 90 = .ok (.iload_n 2, 1) := by decide +kernel
theorem dX1_tellKind_91 : decode cX1_tellKind 91 = .ok (.ireturn, 1) := by decide +kernel
def pX1_tellKind_b74 (g : MT) (this : Nat) (p1 : Nat) (l2 : Int32) (h : CT) : Option ((Int32) × CT) := lt (sL h this 0 (hL h this 3)) fun h1 => (lt (sI h1 this 1 (hI h1 this 4)) fun h2 => (some (l2, h2)))
set_option maxRecDepth 10000 in
set_option maxHeartbeats 4000000 in
theorem pX1_tellKind_b74_ok {X : Cx} {G : Gx} {dk : Nat} {g : MT} {r0 : Int32} {h0 : CT} {this : Nat} {p1 : Nat} (Z : Zx X G cX1_tellKind RX1 4 dk (some .int) (some (.int r0)) g h0) (hK : 2 ≤ dk) (t0 : gT g this = 1) (l2 : Int32) (h : CT) (hf : pX1_tellKind_b74 g this p1 l2 h = some (r0, h0)) : J X g h 74 [(0, va_rf (some this)), (2, .int l2)] [] := by
  unfold pX1_tellKind_b74 at hf
  refine J_aload_n Z.1 0 dX1_tellKind_74 rfl rfl ?_
  refine J_aload_n Z.1 0 dX1_tellKind_75 rfl rfl ?_
  refine J_get (v := .long (hL h this 3)) Z.1 dX1_tellKind_76 fl_X1_37 t0 rfl ?_
  refine J_putL Z.1 dX1_tellKind_79 fl_X1_21 (fun q => by cases q) t0 rfl rfl (congrArg Value.long (hL_s _ _ _ _)) ?_
  refine J_th (fun h1 eh1 => ?_)
  replace hf := lt_i hf h1 eh1
  refine J_aload_n Z.1 0 dX1_tellKind_82 rfl rfl ?_
  refine J_aload_n Z.1 0 dX1_tellKind_83 rfl rfl ?_
  refine J_get (v := .int (hI h1 this 4)) Z.1 dX1_tellKind_84 fl_X1_42 t0 rfl ?_
  refine J_putI Z.1 dX1_tellKind_87 fl_X1_25 (fun q => by cases q) t0 rfl rfl (congrArg Value.int (hI_s _ _ _ _)) ?_
  refine J_th (fun h2 eh2 => ?_)
  replace hf := lt_i hf h2 eh2
  refine J_iload_n Z.1 1 dX1_tellKind_90 rfl rfl ?_
  cases hf
  exact J_iret Z.1 Z.2.2.2.2.2 dX1_tellKind_91
def pX1_tellKind_b29 (g : MT) (this : Nat) (p1 : Nat) (k29 : Int32 → Int32 → CT → Option ((Int32) × CT)) (l2 : Int32) (l3 : Int32) (h : CT) : Option ((Int32) × CT) := if 64 ≤ l3 then pX1_tellKind_b74 g this p1  l2 h else if (lg_cmp ((hL h this 3) &&& 1) 0) = 0 then lt (sL h this 3 ((hL h this 3) / 2)) fun h3 => (lt (sI h3 this 4 ((hI h3 this 4) + 1)) fun h4 => (lt (l3 + 1) fun x5 => (k29 l2 x5 h4))) else pX1_tellKind_b74 g this p1  l2 h
set_option maxRecDepth 10000 in
set_option maxHeartbeats 4000000 in
theorem pX1_tellKind_b29_ok {X : Cx} {G : Gx} {dk : Nat} {g : MT} {r0 : Int32} {h0 : CT} {this : Nat} {p1 : Nat} {k29 : Int32 → Int32 → CT → Option ((Int32) × CT)} (Z : Zx X G cX1_tellKind RX1 4 dk (some .int) (some (.int r0)) g h0) (hK : 2 ≤ dk) (t0 : gT g this = 1) (hk29 : ∀ (l2 : Int32) (l3 : Int32) (h : CT), k29 l2 l3 h = some (r0, h0) → J X g h 29 [(0, va_rf (some this)), (2, .int l2), (3, .int l3)] []) (l2 : Int32) (l3 : Int32) (h : CT) (hf : pX1_tellKind_b29 g this p1 k29 l2 l3 h = some (r0, h0)) : J X g h 29 [(0, va_rf (some this)), (2, .int l2), (3, .int l3)] [] := by
  unfold pX1_tellKind_b29 at hf
  refine J_iload_n Z.1 2 dX1_tellKind_29 rfl rfl ?_
  refine J_bipush Z.1 (v := 64) (by decide) dX1_tellKind_30 ?_
  refine J_icmp_ge Z.1 74 dX1_tellKind_32 (by decide) (fun c1 => ?_) (fun c1 => ?_)
  · rw [if_pos c1] at hf
    refine J_lv [0, 1] rfl ?_
    exact pX1_tellKind_b74_ok Z hK t0  _ _ hf
  · rw [if_neg c1] at hf
    refine J_aload_n Z.1 0 dX1_tellKind_35 rfl rfl ?_
    refine J_get (v := .long (hL h this 3)) Z.1 dX1_tellKind_36 fl_X1_37 t0 rfl ?_
    refine J_lconst Z.1 (v := 1) (by decide) dX1_tellKind_39 ?_
    refine J_land Z.1 dX1_tellKind_40 ?_
    refine J_lconst Z.1 (v := 0) (by decide) dX1_tellKind_41 ?_
    refine J_lcmp Z.1 dX1_tellKind_42 ?_
    refine J_if_ne Z.1 74 dX1_tellKind_43 (by decide) (fun c2 => ?_) (fun c2 => ?_)
    · rw [if_neg c2] at hf
      refine J_lv [0, 1] rfl ?_
      exact pX1_tellKind_b74_ok Z hK t0  _ _ hf
    · rw [if_pos c2] at hf
      refine J_aload_n Z.1 0 dX1_tellKind_46 rfl rfl ?_
      refine J_aload_n Z.1 0 dX1_tellKind_47 rfl rfl ?_
      refine J_get (v := .long (hL h this 3)) Z.1 dX1_tellKind_48 fl_X1_37 t0 rfl ?_
      refine J_ldc2 Z.1 q_869 dX1_tellKind_51 ?_
      refine J_ldiv Z.1 (by decide) dX1_tellKind_54 ?_
      refine J_putL Z.1 dX1_tellKind_55 fl_X1_37 (fun q => by cases q) t0 rfl rfl (congrArg Value.long (hL_s _ _ _ _)) ?_
      refine J_th (fun h3 eh3 => ?_)
      replace hf := lt_i hf h3 eh3
      refine J_aload_n Z.1 0 dX1_tellKind_58 rfl rfl ?_
      refine J_dup Z.1 dX1_tellKind_59 rfl ?_
      refine J_get (v := .int (hI h3 this 4)) Z.1 dX1_tellKind_60 fl_X1_42 t0 rfl ?_
      refine J_iconst Z.1 (v := 1) (by decide) dX1_tellKind_63 ?_
      refine J_iadd Z.1 dX1_tellKind_64 ?_
      refine J_putI Z.1 dX1_tellKind_65 fl_X1_42 (fun q => by cases q) t0 rfl rfl (congrArg Value.int (hI_s _ _ _ _)) ?_
      refine J_th (fun h4 eh4 => ?_)
      replace hf := lt_i hf h4 eh4
      refine J_iinc Z.1 (v := 1) (lv2 := [(3, .int (l3 + 1)), (0, va_rf (some this)), (2, .int l2)]) 2 dX1_tellKind_68 rfl (by decide) (zL Z (by decide)) rfl ?_
      obtain ⟨x5, ex5⟩ : ∃ z, z = (l3 + 1) := ⟨_, rfl⟩
      replace hf := lt_i hf x5 ex5
      rw [← ex5]
      refine J_goto Z.1 29 dX1_tellKind_71 (by decide) ?_
      refine J_lv [1, 2, 0] rfl ?_
      exact hk29 _ _ _ hf
def pX1_tellKind_l29 (g : MT) (this : Nat) (p1 : Nat) : Nat → Int32 → Int32 → CT → Option ((Int32) × CT)
  | 0, _, _, _ => none
  | n + 1, l2, l3, h => pX1_tellKind_b29 g this p1 (pX1_tellKind_l29 g this p1 n) l2 l3 h
theorem pX1_tellKind_l29_ok {X : Cx} {G : Gx} {dk : Nat} {g : MT} {r0 : Int32} {h0 : CT} {this : Nat} {p1 : Nat} (Z : Zx X G cX1_tellKind RX1 4 dk (some .int) (some (.int r0)) g h0) (hK : 2 ≤ dk) (t0 : gT g this = 1) : ∀ (n : Nat) (l2 : Int32) (l3 : Int32) (h : CT), pX1_tellKind_l29 g this p1 n l2 l3 h = some (r0, h0) → J X g h 29 [(0, va_rf (some this)), (2, .int l2), (3, .int l3)] [] := by
  intro n
  induction n with
  | zero => intro l2 l3 h hf; cases hf
  | succ n ih => intro l2 l3 h hf; exact pX1_tellKind_b29_ok Z hK t0 ih l2 l3 h hf
def pX1_tellKind (g : MT) (h : CT) (this : Nat) (p1 : Nat) : Option ((Int32) × CT) := tg g this 1 (tg g p1 4 (bd (pX4_kind g h p1) fun x2 => (lt (sL h this 0 0) fun h4 => (lt (sI h4 this 1 0) fun h5 => (if x2 = 0 then bd (pX1_split g h5 this (hD h5 p1 0)) fun h7 => (pX1_tellKind_l29 g this p1  FUEL x2 0 h7) else some (x2, h5))))))
set_option maxRecDepth 10000 in
set_option maxHeartbeats 4000000 in
theorem pX1_tellKind_ok (G : Gx) (dk : Nat) (hK : 2 ≤ dk) {g : MT} {h h0 : CT} {this : Nat} {p1 : Nat} {r0 : Int32} (hf : pX1_tellKind g h this p1 = some (r0, h0)) : Ctr G dk yX1_tellKind cX1_tellKind 4 (some .int) [va_rf (some this), va_rf (some p1)] g h (some (.int r0)) g h0 := by
  refine Ctr.ofZ (lv := [(0, va_rf (some this)), (1, va_rf (some p1))]) (by decide +kernel) (by simp [cat_i, cat_l, cat_d, cat_rf]) rfl fun X Z => ?_
  unfold pX1_tellKind at hf
  replace hf := tg_i hf
  obtain ⟨t0, hf⟩ := hf
  refine J_aload_n Z.1 1 dX1_tellKind_0 rfl rfl ?_
  replace hf := tg_i hf
  obtain ⟨t1, hf⟩ := hf
  replace hf := bd_i hf
  obtain ⟨x2, q3, hf⟩ := hf
  refine J_callV (ci := 3) (as := []) (rest := []) (sy := [.int x2]) Z.1 dX1_tellKind_1 cw_X1_15 (pX4_kind_ok G (dk - 1) (by omega) q3) rfl rfl t1 (zG Z) rfl (by decide) (zF Z (by omega)) (zO Z (by omega) (by decide)) (zM _) Z.2.1 Z.2.1 rfl rfl ?_
  refine J_istore_n Z.1 (lv2 := [(2, .int x2), (0, va_rf (some this)), (1, va_rf (some p1))]) dX1_tellKind_4 rfl (zL Z (by decide)) rfl ?_
  refine J_aload_n Z.1 1 dX1_tellKind_5 rfl rfl ?_
  refine J_lconst Z.1 (v := 0) (by decide) dX1_tellKind_6 ?_
  refine J_putL Z.1 dX1_tellKind_7 fl_X1_21 (fun q => by cases q) t0 rfl rfl (congrArg Value.long (hL_s _ _ _ _)) ?_
  refine J_th (fun h4 eh4 => ?_)
  replace hf := lt_i hf h4 eh4
  refine J_aload_n Z.1 1 dX1_tellKind_10 rfl rfl ?_
  refine J_iconst Z.1 (v := 0) (by decide) dX1_tellKind_11 ?_
  refine J_putI Z.1 dX1_tellKind_12 fl_X1_25 (fun q => by cases q) t0 rfl rfl (congrArg Value.int (hI_s _ _ _ _)) ?_
  refine J_th (fun h5 eh5 => ?_)
  replace hf := lt_i hf h5 eh5
  refine J_iload_n Z.1 0 dX1_tellKind_15 rfl rfl ?_
  refine J_if_ne Z.1 90 dX1_tellKind_16 (by decide) (fun c6 => ?_) (fun c6 => ?_)
  · rw [if_neg c6] at hf
    refine J_iload_n Z.1 0 dX1_tellKind_90 rfl rfl ?_
    cases hf
    exact J_iret Z.1 Z.2.2.2.2.2 dX1_tellKind_91
  · rw [if_pos c6] at hf
    refine J_aload_n Z.1 1 dX1_tellKind_19 rfl rfl ?_
    refine J_aload_n Z.1 2 dX1_tellKind_20 rfl rfl ?_
    refine J_get (v := .double (hD h5 p1 0)) Z.1 dX1_tellKind_21 fl_X1_29 t1 rfl ?_
    replace hf := bd_i hf
    obtain ⟨h7, q8, hf⟩ := hf
    refine J_callV (ci := 0) (as := [.double (hD h5 p1 0)]) (rest := []) (sy := []) Z.1 dX1_tellKind_24 cw_X1_33 (pX1_split_ok G (dk - 1) (by omega) q8) rfl rfl t0 (zG Z) rfl (by decide) (zF Z (by omega)) (zO Z (by omega) (by decide)) (zM _) Z.2.1 Z.2.1 rfl rfl ?_
    refine J_iconst Z.1 (v := 0) (by decide) dX1_tellKind_27 ?_
    refine J_istore_n Z.1 (lv2 := [(3, .int 0), (2, .int x2), (0, va_rf (some this)), (1, va_rf (some p1))]) dX1_tellKind_28 rfl (zL Z (by decide)) rfl ?_
    refine J_lv [2, 1, 0] rfl ?_
    exact pX1_tellKind_l29_ok Z hK t0  FUEL _ _ _ hf
theorem dX7_canSwap_0 : decode cX7_canSwap 0 = .ok (.aload_n 0, 1) := by decide +kernel
theorem dX7_canSwap_1 : decode cX7_canSwap 1 = .ok (.iload_n 1, 1) := by decide +kernel
theorem dX7_canSwap_2 : decode cX7_canSwap 2 = .ok (.iload_n 1, 1) := by decide +kernel
theorem dX7_canSwap_3 : decode cX7_canSwap 3 = .ok (.iconst 1, 1) := by decide +kernel
theorem dX7_canSwap_4 : decode cX7_canSwap 4 = .ok (.iadd, 1) := by decide +kernel
theorem dX7_canSwap_5 : decode cX7_canSwap 5 = .ok (.invokevirtual 45, 3) := by decide +kernel
theorem dX7_canSwap_8 : decode cX7_canSwap 8 = .ok (.ifCond .ne 17, 3) := by decide +kernel
theorem dX7_canSwap_11 : decode cX7_canSwap 11 = .ok (.aload_n 0, 1) := by decide +kernel
theorem dX7_canSwap_12 : decode cX7_canSwap 12 = .ok (.iload_n 1, 1) := by decide +kernel
theorem dX7_canSwap_13 : decode cX7_canSwap 13 = .ok (.iconst 1, 1) := by decide +kernel
theorem dX7_canSwap_14 : decode cX7_canSwap 14 = .ok (.iadd, 1) := by decide +kernel
theorem dX7_canSwap_15 : decode cX7_canSwap 15 = .ok (.invokevirtual 49, 3) := by decide +kernel
theorem dX7_canSwap_18 : decode cX7_canSwap 18 = .ok (.ifCond .ne 7, 3) := by decide +kernel
theorem dX7_canSwap_21 : decode cX7_canSwap 21 = .ok (.iconst 1, 1) := by decide +kernel
theorem dX7_canSwap_22 : decode cX7_canSwap 22 = .ok (.goto 4, 3) := by decide +kernel
theorem dX7_canSwap_25 : decode cX7_canSwap 25 = .ok (.iconst 0, 1) := by decide +kernel
theorem dX7_canSwap_26 : decode cX7_canSwap 26 = .ok (.ireturn, 1) := by decide +kernel
def pX7_canSwap (E : EC) (g : MT) (h : CT) (this : Nat) (p1 : Int32) : Option Int32 := tg g this 6 (bd (pX7_ties E g h this p1 (p1 + 1)) fun x1 => (if x1 = 0 then bd (pX7_endsAhead E g h this (p1 + 1)) fun x4 => (if x4 = 0 then some 1 else some 0) else some 0))
set_option maxRecDepth 10000 in
set_option maxHeartbeats 4000000 in
theorem pX7_canSwap_ok (G : Gx) (dk : Nat) (hK : 4 ≤ dk) {g : MT} {E : EC} (hE : G.2.2.2 = E) {h : CT} {this : Nat} {p1 : Int32} {r0 : Int32} (hf : pX7_canSwap E g h this p1 = some r0) : Ctr G dk yX7_canSwap cX7_canSwap 2 (some .boolean) [va_rf (some this), .int p1] g h (some (.int r0)) g h := by
  refine Ctr.ofZ (lv := [(0, va_rf (some this)), (1, .int p1)]) (by decide +kernel) (by simp [cat_i, cat_l, cat_d, cat_rf]) rfl fun X Z => ?_
  unfold pX7_canSwap at hf
  replace hf := tg_i hf
  obtain ⟨t0, hf⟩ := hf
  refine J_aload_n Z.1 0 dX7_canSwap_0 rfl rfl ?_
  refine J_iload_n Z.1 1 dX7_canSwap_1 rfl rfl ?_
  refine J_iload_n Z.1 1 dX7_canSwap_2 rfl rfl ?_
  refine J_iconst Z.1 (v := 1) (by decide) dX7_canSwap_3 ?_
  refine J_iadd Z.1 dX7_canSwap_4 ?_
  replace hf := bd_i hf
  obtain ⟨x1, q2, hf⟩ := hf
  refine J_callV (ci := 5) (as := [.int p1, .int (p1 + 1)]) (rest := []) (sy := [.int x1]) Z.1 dX7_canSwap_5 cw_X7_45 (pX7_ties_ok G (dk - 1) (by omega) hE q2) rfl rfl t0 (zG Z) rfl (by decide) (zF Z (by omega)) (zO Z (by omega) (by decide)) (zM _) Z.2.1 Z.2.1 rfl rfl ?_
  refine J_if_ne Z.1 25 dX7_canSwap_8 (by decide) (fun c3 => ?_) (fun c3 => ?_)
  · rw [if_neg c3] at hf
    refine J_iconst Z.1 (v := 0) (by decide) dX7_canSwap_25 ?_
    cases hf
    exact J_zret Z.1 Z.2.2.2.2.2 (z_n (Or.inl rfl)) dX7_canSwap_26
  · rw [if_pos c3] at hf
    refine J_aload_n Z.1 0 dX7_canSwap_11 rfl rfl ?_
    refine J_iload_n Z.1 1 dX7_canSwap_12 rfl rfl ?_
    refine J_iconst Z.1 (v := 1) (by decide) dX7_canSwap_13 ?_
    refine J_iadd Z.1 dX7_canSwap_14 ?_
    replace hf := bd_i hf
    obtain ⟨x4, q5, hf⟩ := hf
    refine J_callV (ci := 5) (as := [.int (p1 + 1)]) (rest := []) (sy := [.int x4]) Z.1 dX7_canSwap_15 cw_X7_49 (pX7_endsAhead_ok G (dk - 1) (by omega) hE q5) rfl rfl t0 (zG Z) rfl (by decide) (zF Z (by omega)) (zO Z (by omega) (by decide)) (zM _) Z.2.1 Z.2.1 rfl rfl ?_
    refine J_if_ne Z.1 25 dX7_canSwap_18 (by decide) (fun c6 => ?_) (fun c6 => ?_)
    · rw [if_neg c6] at hf
      refine J_iconst Z.1 (v := 0) (by decide) dX7_canSwap_25 ?_
      cases hf
      exact J_zret Z.1 Z.2.2.2.2.2 (z_n (Or.inl rfl)) dX7_canSwap_26
    · rw [if_pos c6] at hf
      refine J_iconst Z.1 (v := 1) (by decide) dX7_canSwap_21 ?_
      refine J_goto Z.1 26 dX7_canSwap_22 (by decide) ?_
      cases hf
      exact J_zret Z.1 Z.2.2.2.2.2 (z_n (Or.inr rfl)) dX7_canSwap_26
theorem dX10_beginInstr_0 : decode cX10_beginInstr 0 = .ok (.aload_n 0, 1) := by decide +kernel
theorem dX10_beginInstr_1 : decode cX10_beginInstr 1 = .ok (.getfield 52, 3) := by decide +kernel
theorem dX10_beginInstr_4 : decode cX10_beginInstr 4 = .ok (.iconst 1, 1) := by decide +kernel
theorem dX10_beginInstr_5 : decode cX10_beginInstr 5 = .ok (.iadd, 1) := by decide +kernel
theorem dX10_beginInstr_6 : decode cX10_beginInstr 6 = .ok (.aload_n 0, 1) := by decide +kernel
theorem dX10_beginInstr_7 : decode cX10_beginInstr 7 = .ok (.getfield 55, 3) := by decide +kernel
theorem dX10_beginInstr_10 : decode cX10_beginInstr 10 = .ok (.invokestatic 77, 3) := by decide +kernel
theorem dX10_beginInstr_13 : decode cX10_beginInstr 13 = .ok (.istore 4, 2) := by decide +kernel
theorem dX10_beginInstr_15 : decode cX10_beginInstr 15 = .ok (.aload_n 2, 1) := by decide +kernel
theorem dX10_beginInstr_16 : decode cX10_beginInstr 16 = .ok (.getfield 86, 3) := by decide +kernel
theorem dX10_beginInstr_19 : decode cX10_beginInstr 19 = .ok (.getfield 92, 3) := by decide +kernel
theorem dX10_beginInstr_22 : decode cX10_beginInstr 22 = .ok (.istore 5, 2) := by decide +kernel
theorem dX10_beginInstr_24 : decode cX10_beginInstr 24 = .ok (.iload 5, 2) := by decide +kernel
theorem dX10_beginInstr_26 : decode cX10_beginInstr 26 = .ok (.ifCond .lt 27, 3) := by decide +kernel
theorem dX10_beginInstr_29 : decode cX10_beginInstr 29 = .ok (.iload 5, 2) := by decide +kernel
theorem dX10_beginInstr_31 : decode cX10_beginInstr 31 = .ok (.aload_n 0, 1) := by decide +kernel
theorem dX10_beginInstr_32 : decode cX10_beginInstr 32 = .ok (.getfield 21, 3) := by decide +kernel
theorem dX10_beginInstr_35 : decode cX10_beginInstr 35 = .ok (.arraylength, 1) := by decide +kernel
theorem dX10_beginInstr_36 : decode cX10_beginInstr 36 = .ok (.if_icmp .ge 17, 3) := by decide +kernel
theorem dX10_beginInstr_39 : decode cX10_beginInstr 39 = .ok (.iload 4, 2) := by decide +kernel
theorem dX10_beginInstr_41 : decode cX10_beginInstr 41 = .ok (.aload_n 0, 1) := by decide +kernel
theorem dX10_beginInstr_42 : decode cX10_beginInstr 42 = .ok (.getfield 21, 3) := by decide +kernel
theorem dX10_beginInstr_45 : decode cX10_beginInstr 45 = .ok (.iload 5, 2) := by decide +kernel
theorem dX10_beginInstr_47 : decode cX10_beginInstr 47 = .ok (.iaload, 1) := by decide +kernel
theorem dX10_beginInstr_48 : decode cX10_beginInstr 48 = .ok (.invokestatic 77, 3) := by decide +kernel
theorem dX10_beginInstr_51 : decode cX10_beginInstr 51 = .ok (.istore 4, 2) := by decide +kernel
theorem dX10_beginInstr_53 : decode cX10_beginInstr 53 = .ok (.aload_n 2, 1) := by decide +kernel
theorem dX10_beginInstr_54 : decode cX10_beginInstr 54 = .ok (.invokevirtual 97, 3) := by decide +kernel
theorem dX10_beginInstr_57 : decode cX10_beginInstr 57 = .ok (.ifCond .eq 14, 3) := by decide +kernel
theorem dX10_beginInstr_60 : decode cX10_beginInstr 60 = .ok (.iload 4, 2) := by decide +kernel
theorem dX10_beginInstr_62 : decode cX10_beginInstr 62 = .ok (.aload_n 0, 1) := by decide +kernel
theorem dX10_beginInstr_63 : decode cX10_beginInstr 63 = .ok (.getfield 61, 3) := by decide +kernel
theorem dX10_beginInstr_66 : decode cX10_beginInstr 66 = .ok (.invokestatic 77, 3) := by decide +kernel
theorem dX10_beginInstr_69 : decode cX10_beginInstr 69 = .ok (.istore 4, 2) := by decide +kernel
theorem dX10_beginInstr_71 : decode cX10_beginInstr 71 = .ok (.aload_n 2, 1) := by decide +kernel
theorem dX10_beginInstr_72 : decode cX10_beginInstr 72 = .ok (.getfield 86, 3) := by decide +kernel
theorem dX10_beginInstr_75 : decode cX10_beginInstr 75 = .ok (.bipush 32, 2) := by decide +kernel
theorem dX10_beginInstr_77 : decode cX10_beginInstr 77 = .ok (.invokevirtual 101, 3) := by decide +kernel
theorem dX10_beginInstr_80 : decode cX10_beginInstr 80 = .ok (.ifCond .eq 14, 3) := by decide +kernel
theorem dX10_beginInstr_83 : decode cX10_beginInstr 83 = .ok (.iload 4, 2) := by decide +kernel
theorem dX10_beginInstr_85 : decode cX10_beginInstr 85 = .ok (.aload_n 0, 1) := by decide +kernel
theorem dX10_beginInstr_86 : decode cX10_beginInstr 86 = .ok (.getfield 64, 3) := by decide +kernel
theorem dX10_beginInstr_89 : decode cX10_beginInstr 89 = .ok (.invokestatic 77, 3) := by decide +kernel
theorem dX10_beginInstr_92 : decode cX10_beginInstr 92 = .ok (.istore 4, 2) := by decide +kernel
theorem dX10_beginInstr_94 : decode cX10_beginInstr 94 = .ok (.aload_n 2, 1) := by decide +kernel
theorem dX10_beginInstr_95 : decode cX10_beginInstr 95 = .ok (.getfield 86, 3) := by decide +kernel
theorem dX10_beginInstr_98 : decode cX10_beginInstr 98 = .ok (.getstatic 105, 3) := by decide +kernel
theorem dX10_beginInstr_101 : decode cX10_beginInstr 101 = .ok (.if_acmp .eq 23, 3) := by decide +kernel
theorem dX10_beginInstr_104 : decode cX10_beginInstr 104 = .ok (.aload_n 2, 1) := by decide +kernel
theorem dX10_beginInstr_105 : decode cX10_beginInstr 105 = .ok (.getfield 86, 3) := by decide +kernel
theorem dX10_beginInstr_108 : decode cX10_beginInstr 108 = .ok (.getstatic 108, 3) := by decide +kernel
theorem dX10_beginInstr_111 : decode cX10_beginInstr 111 = .ok (.if_acmp .eq 13, 3) := by decide +kernel
theorem dX10_beginInstr_114 : decode cX10_beginInstr 114 = .ok (.aload_n 2, 1) := by decide +kernel
theorem dX10_beginInstr_115 : decode cX10_beginInstr 115 = .ok (.getfield 86, 3) := by decide +kernel
theorem dX10_beginInstr_118 : decode cX10_beginInstr 118 = .ok (.getstatic 111, 3) := by decide +kernel
theorem dX10_beginInstr_121 : decode cX10_beginInstr 121 = .ok (.if_acmp .ne 16, 3) := by decide +kernel
theorem dX10_beginInstr_124 : decode cX10_beginInstr 124 = .ok (.iload 4, 2) := by decide +kernel
theorem dX10_beginInstr_126 : decode cX10_beginInstr 126 = .ok (.aload_n 0, 1) := by decide +kernel
theorem dX10_beginInstr_127 : decode cX10_beginInstr 127 = .ok (.aload_n 2, 1) := by decide +kernel
theorem dX10_beginInstr_128 : decode cX10_beginInstr 128 = .ok (.iload_n 3, 1) := by decide +kernel
theorem dX10_beginInstr_129 : decode cX10_beginInstr 129 = .ok (.invokevirtual 114, 3) := by decide +kernel
theorem dX10_beginInstr_132 : decode cX10_beginInstr 132 = .ok (.invokestatic 77, 3) := by decide +kernel
theorem dX10_beginInstr_135 : decode cX10_beginInstr 135 = .ok (.istore 4, 2) := by decide +kernel
theorem dX10_beginInstr_137 : decode cX10_beginInstr 137 = .ok (.aload_n 0, 1) := by decide +kernel
theorem dX10_beginInstr_138 : decode cX10_beginInstr 138 = .ok (.iload 4, 2) := by decide +kernel
theorem dX10_beginInstr_140 : decode cX10_beginInstr 140 = .ok (.putfield 52, 3) := by decide +kernel
theorem dX10_beginInstr_143 : decode cX10_beginInstr 143 = .ok (.aload_n 0, 1) := by decide +kernel
theorem dX10_beginInstr_144 : decode cX10_beginInstr 144 = .ok (.iload 4, 2) := by decide +kernel
theorem dX10_beginInstr_146 : decode cX10_beginInstr 146 = .ok (.invokevirtual 82, 3) := by decide +kernel
theorem dX10_beginInstr_149 : decode cX10_beginInstr 149 = .ok (.iload_n 1, 1) := by decide +kernel
theorem dX10_beginInstr_150 : decode cX10_beginInstr 150 = .ok (.ifCond .lt 36, 3) := by decide +kernel
theorem dX10_beginInstr_153 : decode cX10_beginInstr 153 = .ok (.iload_n 1, 1) := by decide +kernel
theorem dX10_beginInstr_154 : decode cX10_beginInstr 154 = .ok (.aload_n 0, 1) := by decide +kernel
theorem dX10_beginInstr_155 : decode cX10_beginInstr 155 = .ok (.getfield 9, 3) := by decide +kernel
theorem dX10_beginInstr_158 : decode cX10_beginInstr 158 = .ok (.arraylength, 1) := by decide +kernel
theorem dX10_beginInstr_159 : decode cX10_beginInstr 159 = .ok (.if_icmp .ge 27, 3) := by decide +kernel
theorem dX10_beginInstr_162 : decode cX10_beginInstr 162 = .ok (.iload_n 1, 1) := by decide +kernel
theorem dX10_beginInstr_163 : decode cX10_beginInstr 163 = .ok (.aload_n 0, 1) := by decide +kernel
theorem dX10_beginInstr_164 : decode cX10_beginInstr 164 = .ok (.getfield 15, 3) := by decide +kernel
theorem dX10_beginInstr_167 : decode cX10_beginInstr 167 = .ok (.arraylength, 1) := by decide +kernel
theorem dX10_beginInstr_168 : decode cX10_beginInstr 168 = .ok (.if_icmp .ge 18, 3) := by decide +kernel
theorem dX10_beginInstr_171 : decode cX10_beginInstr 171 = .ok (.aload_n 0, 1) := by decide +kernel
theorem dX10_beginInstr_172 : decode cX10_beginInstr 172 = .ok (.getfield 9, 3) := by decide +kernel
theorem dX10_beginInstr_175 : decode cX10_beginInstr 175 = .ok (.iload_n 1, 1) := by decide +kernel
theorem dX10_beginInstr_176 : decode cX10_beginInstr 176 = .ok (.iload 4, 2) := by decide +kernel
theorem dX10_beginInstr_178 : decode cX10_beginInstr 178 = .ok (.iastore, 1) := by decide +kernel
theorem dX10_beginInstr_179 : decode cX10_beginInstr 179 = .ok (.aload_n 0, 1) := by decide +kernel
theorem dX10_beginInstr_180 : decode cX10_beginInstr 180 = .ok (.getfield 15, 3) := by decide +kernel
theorem dX10_beginInstr_183 : decode cX10_beginInstr 183 = .ok (.iload_n 1, 1) := by decide +kernel
theorem dX10_beginInstr_184 : decode cX10_beginInstr 184 = .ok (.iconst (-1), 1) := by decide +kernel
theorem dX10_beginInstr_185 : decode cX10_beginInstr 185 = .ok (.iastore, 1) := by decide +kernel
theorem dX10_beginInstr_186 : decode cX10_beginInstr 186 = .ok (.return_, 1) := by decide +kernel
def pX10_beginInstr_b137 (E : EC) (g : MT) (this : Nat) (p1 : Int32) (p2 : Nat) (p3 : Int32) (l4 : Int32) (h : CT) : Option CT := lt (sI h this 8 l4) fun h1 => (bd (pX10_note g h1 this l4) fun h2 => (if p1 < 0 then some h2 else lt (hR h2 this 6) fun r5 => (nn r5 fun a5 => (tg g a5 20 (if (Int32.ofNat (gL g a5)) ≤ p1 then some h2 else lt (hR h2 this 7) fun r8 => (nn r8 fun a8 => (tg g a8 20 (if (Int32.ofNat (gL g a8)) ≤ p1 then some h2 else lt (hR h2 this 6) fun r11 => (nn r11 fun a11 => (tg g a11 20 (ix (gL g a11) p1 (lt (sI h2 a11 (Int32.toNatClampNeg p1) l4) fun h14 => (lt (hR h14 this 7) fun r15 => (nn r15 fun a15 => (tg g a15 20 (ix (gL g a15) p1 (lt (sI h14 a15 (Int32.toNatClampNeg p1) (-1)) fun h18 => (some h18))))))))))))))))))
set_option maxRecDepth 10000 in
set_option maxHeartbeats 4000000 in
theorem pX10_beginInstr_b137_ok {X : Cx} {G : Gx} {dk : Nat} {g : MT} {h0 : CT} {this : Nat} {p1 : Int32} {p2 : Nat} {p3 : Int32} (Z : Zx X G cX10_beginInstr RX10 6 dk none none g h0) (hK : 2 ≤ dk) {E : EC} (hE : G.2.2.2 = E) (t0 : gT g this = 9) (l4 : Int32) (h : CT) (hf : pX10_beginInstr_b137 E g this p1 p2 p3 l4 h = some h0) : J X g h 137 [(0, va_rf (some this)), (1, .int p1), (4, .int l4)] [] := by
  unfold pX10_beginInstr_b137 at hf
  refine J_aload_n Z.1 0 dX10_beginInstr_137 rfl rfl ?_
  refine J_iload Z.1 2 dX10_beginInstr_138 rfl ?_
  refine J_putI Z.1 dX10_beginInstr_140 fl_X10_52 (fun q => by cases q) t0 rfl rfl (congrArg Value.int (hI_s _ _ _ _)) ?_
  refine J_th (fun h1 eh1 => ?_)
  replace hf := lt_i hf h1 eh1
  refine J_aload_n Z.1 0 dX10_beginInstr_143 rfl rfl ?_
  refine J_iload Z.1 2 dX10_beginInstr_144 rfl ?_
  replace hf := bd_i hf
  obtain ⟨h2, q3, hf⟩ := hf
  refine J_callV (ci := 8) (as := [.int l4]) (rest := []) (sy := []) Z.1 dX10_beginInstr_146 cw_X10_82 (pX10_note_ok G (dk - 1) (by omega) q3) rfl rfl t0 (zG Z) rfl (by decide) (zF Z (by omega)) (zO Z (by omega) (by decide)) (zM _) Z.2.1 Z.2.1 rfl rfl ?_
  refine J_iload_n Z.1 1 dX10_beginInstr_149 rfl rfl ?_
  refine J_if_lt Z.1 186 dX10_beginInstr_150 (by decide) (fun c4 => ?_) (fun c4 => ?_)
  · rw [if_pos c4] at hf
    cases hf
    exact J_vret Z.1 Z.2.2.2.2.2 dX10_beginInstr_186
  · rw [if_neg c4] at hf
    refine J_iload_n Z.1 1 dX10_beginInstr_153 rfl rfl ?_
    refine J_aload_n Z.1 0 dX10_beginInstr_154 rfl rfl ?_
    refine J_get (v := va_rf (hR h2 this 6)) Z.1 dX10_beginInstr_155 fl_X10_9 t0 rfl ?_
    refine J_tr (fun r5 er5 => ?_)
    replace hf := lt_i hf r5 er5
    replace hf := nn_i hf
    obtain ⟨a5, rfl, hf⟩ := hf
    replace hf := tg_i hf
    obtain ⟨t6, hf⟩ := hf
    refine J_alen (t := 0) Z.1 dX10_beginInstr_158 t6 rfl ?_
    refine J_icmp_ge Z.1 186 dX10_beginInstr_159 (by decide) (fun c7 => ?_) (fun c7 => ?_)
    · rw [if_pos c7] at hf
      cases hf
      exact J_vret Z.1 Z.2.2.2.2.2 dX10_beginInstr_186
    · rw [if_neg c7] at hf
      refine J_iload_n Z.1 1 dX10_beginInstr_162 rfl rfl ?_
      refine J_aload_n Z.1 0 dX10_beginInstr_163 rfl rfl ?_
      refine J_get (v := va_rf (hR h2 this 7)) Z.1 dX10_beginInstr_164 fl_X10_15 t0 rfl ?_
      refine J_tr (fun r8 er8 => ?_)
      replace hf := lt_i hf r8 er8
      replace hf := nn_i hf
      obtain ⟨a8, rfl, hf⟩ := hf
      replace hf := tg_i hf
      obtain ⟨t9, hf⟩ := hf
      refine J_alen (t := 0) Z.1 dX10_beginInstr_167 t9 rfl ?_
      refine J_icmp_ge Z.1 186 dX10_beginInstr_168 (by decide) (fun c10 => ?_) (fun c10 => ?_)
      · rw [if_pos c10] at hf
        cases hf
        exact J_vret Z.1 Z.2.2.2.2.2 dX10_beginInstr_186
      · rw [if_neg c10] at hf
        refine J_aload_n Z.1 0 dX10_beginInstr_171 rfl rfl ?_
        refine J_get (v := va_rf (hR h2 this 6)) Z.1 dX10_beginInstr_172 fl_X10_9 t0 rfl ?_
        refine J_tr (fun r11 er11 => ?_)
        replace hf := lt_i hf r11 er11
        refine J_iload_n Z.1 1 dX10_beginInstr_175 rfl rfl ?_
        refine J_iload Z.1 2 dX10_beginInstr_176 rfl ?_
        replace hf := nn_i hf
        obtain ⟨a11, rfl, hf⟩ := hf
        replace hf := tg_i hf
        obtain ⟨t12, hf⟩ := hf
        replace hf := ix_i hf
        obtain ⟨i13, hf⟩ := hf
        refine J_iastore Z.1 dX10_beginInstr_178 t12 i13 ?_
        refine J_th (fun h14 eh14 => ?_)
        replace hf := lt_i hf h14 eh14
        refine J_aload_n Z.1 0 dX10_beginInstr_179 rfl rfl ?_
        refine J_get (v := va_rf (hR h14 this 7)) Z.1 dX10_beginInstr_180 fl_X10_15 t0 rfl ?_
        refine J_tr (fun r15 er15 => ?_)
        replace hf := lt_i hf r15 er15
        refine J_iload_n Z.1 1 dX10_beginInstr_183 rfl rfl ?_
        refine J_iconst Z.1 (v := (-1)) (by decide) dX10_beginInstr_184 ?_
        replace hf := nn_i hf
        obtain ⟨a15, rfl, hf⟩ := hf
        replace hf := tg_i hf
        obtain ⟨t16, hf⟩ := hf
        replace hf := ix_i hf
        obtain ⟨i17, hf⟩ := hf
        refine J_iastore Z.1 dX10_beginInstr_185 t16 i17 ?_
        refine J_th (fun h18 eh18 => ?_)
        replace hf := lt_i hf h18 eh18
        cases hf
        exact J_vret Z.1 Z.2.2.2.2.2 dX10_beginInstr_186
def pX10_beginInstr_b124 (E : EC) (g : MT) (this : Nat) (p1 : Int32) (p2 : Nat) (p3 : Int32) (l4 : Int32) (h : CT) : Option CT := bd (pX10_rowReady E g h this p2 p3) fun x1 => (lt (pJ9_max_7cf53 l4 x1) fun x3 => (pX10_beginInstr_b137 E g this p1 p2 p3  x3 h))
set_option maxRecDepth 10000 in
set_option maxHeartbeats 4000000 in
theorem pX10_beginInstr_b124_ok {X : Cx} {G : Gx} {dk : Nat} {g : MT} {h0 : CT} {this : Nat} {p1 : Int32} {p2 : Nat} {p3 : Int32} (Z : Zx X G cX10_beginInstr RX10 6 dk none none g h0) (hK : 2 ≤ dk) {E : EC} (hE : G.2.2.2 = E) (t0 : gT g this = 9) (l4 : Int32) (h : CT) (hf : pX10_beginInstr_b124 E g this p1 p2 p3 l4 h = some h0) : J X g h 124 [(0, va_rf (some this)), (1, .int p1), (2, va_rf (some p2)), (3, .int p3), (4, .int l4)] [] := by
  unfold pX10_beginInstr_b124 at hf
  refine J_iload Z.1 4 dX10_beginInstr_124 rfl ?_
  refine J_aload_n Z.1 0 dX10_beginInstr_126 rfl rfl ?_
  refine J_aload_n Z.1 2 dX10_beginInstr_127 rfl rfl ?_
  refine J_iload_n Z.1 3 dX10_beginInstr_128 rfl rfl ?_
  replace hf := bd_i hf
  obtain ⟨x1, q2, hf⟩ := hf
  refine J_callV (ci := 8) (as := [va_rf (some p2), .int p3]) (rest := [.int l4]) (sy := [.int x1, .int l4]) Z.1 dX10_beginInstr_129 cw_X10_114 (pX10_rowReady_ok G (dk - 1) (by omega) hE q2) rfl rfl t0 (zG Z) rfl (by simp [cat_i, cat_l, cat_d, cat_rf]) (zF Z (by omega)) (zO Z (by omega) (by decide)) (zM _) Z.2.1 Z.2.1 rfl rfl ?_
  refine J_callS (as := [.int l4, .int x1]) (rest := []) (sy := [.int (pJ9_max_7cf53 l4 x1)]) Z.1 dX10_beginInstr_132 cw_X10_77 (pJ9_max_7cf53_ok G (dk - 1) (by omega) g h l4 x1) (zG Z) rfl (by decide) (zF Z (by omega)) (zO Z (by omega) (by decide)) (zM _) Z.2.1 Z.2.1 rfl rfl ?_
  refine J_ti (fun x3 ex3 => ?_)
  replace hf := lt_i hf x3 ex3
  refine J_istore Z.1 (lv2 := [(4, .int x3), (0, va_rf (some this)), (1, .int p1), (2, va_rf (some p2)), (3, .int p3)]) dX10_beginInstr_135 (zL Z (by decide)) rfl ?_
  refine J_lv [1, 2, 0] rfl ?_
  exact pX10_beginInstr_b137_ok Z hK hE t0  _ _ hf
def pX10_beginInstr_b94 (E : EC) (g : MT) (this : Nat) (p1 : Int32) (p2 : Nat) (p3 : Int32) (l4 : Int32) (h : CT) : Option CT := tg g p2 2 (lt (hR h p2 0) fun r2 => (kR (E.1 26) fun a3 => (if r2 = (some a3) then pX10_beginInstr_b124 E g this p1 p2 p3  l4 h else lt (hR h p2 0) fun r5 => (kR (E.1 28) fun a6 => (if r5 = (some a6) then pX10_beginInstr_b124 E g this p1 p2 p3  l4 h else lt (hR h p2 0) fun r8 => (kR (E.1 29) fun a9 => (if r8 = (some a9) then pX10_beginInstr_b124 E g this p1 p2 p3  l4 h else pX10_beginInstr_b137 E g this p1 p2 p3  l4 h)))))))
set_option maxRecDepth 10000 in
set_option maxHeartbeats 4000000 in
theorem pX10_beginInstr_b94_ok {X : Cx} {G : Gx} {dk : Nat} {g : MT} {h0 : CT} {this : Nat} {p1 : Int32} {p2 : Nat} {p3 : Int32} (Z : Zx X G cX10_beginInstr RX10 6 dk none none g h0) (hK : 2 ≤ dk) {E : EC} (hE : G.2.2.2 = E) (t0 : gT g this = 9) (l4 : Int32) (h : CT) (hf : pX10_beginInstr_b94 E g this p1 p2 p3 l4 h = some h0) : J X g h 94 [(0, va_rf (some this)), (1, .int p1), (2, va_rf (some p2)), (3, .int p3), (4, .int l4)] [] := by
  unfold pX10_beginInstr_b94 at hf
  refine J_aload_n Z.1 2 dX10_beginInstr_94 rfl rfl ?_
  replace hf := tg_i hf
  obtain ⟨t1, hf⟩ := hf
  refine J_get (v := va_rf (hR h p2 0)) Z.1 dX10_beginInstr_95 fl_X10_86 t1 rfl ?_
  refine J_tr (fun r2 er2 => ?_)
  replace hf := lt_i hf r2 er2
  replace hf := kR_i hf
  obtain ⟨a3, ea3, hf⟩ := hf
  refine J_gets (i := 26) (v := va_rf (some a3)) Z.1 dX10_beginInstr_98 rfl q_1012 (zEv Z hE ea3) rfl ?_
  refine J_acmp_eq Z.1 124 dX10_beginInstr_101 (by decide) (fun c4 => ?_) (fun c4 => ?_)
  · rw [if_pos c4] at hf
    exact pX10_beginInstr_b124_ok Z hK hE t0  _ _ hf
  · rw [if_neg c4] at hf
    refine J_aload_n Z.1 2 dX10_beginInstr_104 rfl rfl ?_
    refine J_get (v := va_rf (hR h p2 0)) Z.1 dX10_beginInstr_105 fl_X10_86 t1 rfl ?_
    refine J_tr (fun r5 er5 => ?_)
    replace hf := lt_i hf r5 er5
    replace hf := kR_i hf
    obtain ⟨a6, ea6, hf⟩ := hf
    refine J_gets (i := 28) (v := va_rf (some a6)) Z.1 dX10_beginInstr_108 rfl q_1014 (zEv Z hE ea6) rfl ?_
    refine J_acmp_eq Z.1 124 dX10_beginInstr_111 (by decide) (fun c7 => ?_) (fun c7 => ?_)
    · rw [if_pos c7] at hf
      exact pX10_beginInstr_b124_ok Z hK hE t0  _ _ hf
    · rw [if_neg c7] at hf
      refine J_aload_n Z.1 2 dX10_beginInstr_114 rfl rfl ?_
      refine J_get (v := va_rf (hR h p2 0)) Z.1 dX10_beginInstr_115 fl_X10_86 t1 rfl ?_
      refine J_tr (fun r8 er8 => ?_)
      replace hf := lt_i hf r8 er8
      replace hf := kR_i hf
      obtain ⟨a9, ea9, hf⟩ := hf
      refine J_gets (i := 29) (v := va_rf (some a9)) Z.1 dX10_beginInstr_118 rfl q_1016 (zEv Z hE ea9) rfl ?_
      refine J_acmp_ne Z.1 137 dX10_beginInstr_121 (by decide) (fun c10 => ?_) (fun c10 => ?_)
      · rw [if_neg c10] at hf
        refine J_lv [0, 1, 4] rfl ?_
        exact pX10_beginInstr_b137_ok Z hK hE t0  _ _ hf
      · rw [if_pos c10] at hf
        exact pX10_beginInstr_b124_ok Z hK hE t0  _ _ hf
def pX10_beginInstr_b71 (E : EC) (g : MT) (this : Nat) (p1 : Int32) (p2 : Nat) (p3 : Int32) (l4 : Int32) (h : CT) : Option CT := tg g p2 2 (lt (hR h p2 0) fun r2 => (nn r2 fun a2 => (tg E.2.2 a2 60 (bd (pX5_does E g h a2 32) fun x4 => (if x4 = 0 then pX10_beginInstr_b94 E g this p1 p2 p3  l4 h else lt (pJ9_max_7cf53 l4 (hI h this 12)) fun x7 => (pX10_beginInstr_b94 E g this p1 p2 p3  x7 h))))))
set_option maxRecDepth 10000 in
set_option maxHeartbeats 4000000 in
theorem pX10_beginInstr_b71_ok {X : Cx} {G : Gx} {dk : Nat} {g : MT} {h0 : CT} {this : Nat} {p1 : Int32} {p2 : Nat} {p3 : Int32} (Z : Zx X G cX10_beginInstr RX10 6 dk none none g h0) (hK : 2 ≤ dk) {E : EC} (hE : G.2.2.2 = E) (t0 : gT g this = 9) (l4 : Int32) (h : CT) (hf : pX10_beginInstr_b71 E g this p1 p2 p3 l4 h = some h0) : J X g h 71 [(0, va_rf (some this)), (1, .int p1), (2, va_rf (some p2)), (3, .int p3), (4, .int l4)] [] := by
  unfold pX10_beginInstr_b71 at hf
  refine J_aload_n Z.1 2 dX10_beginInstr_71 rfl rfl ?_
  replace hf := tg_i hf
  obtain ⟨t1, hf⟩ := hf
  refine J_get (v := va_rf (hR h p2 0)) Z.1 dX10_beginInstr_72 fl_X10_86 t1 rfl ?_
  refine J_tr (fun r2 er2 => ?_)
  replace hf := lt_i hf r2 er2
  refine J_bipush Z.1 (v := 32) (by decide) dX10_beginInstr_75 ?_
  replace hf := nn_i hf
  obtain ⟨a2, rfl, hf⟩ := hf
  replace hf := tg_i hf
  obtain ⟨t3, hf⟩ := hf
  rw [← zE Z hE] at t3
  replace hf := bd_i hf
  obtain ⟨x4, q5, hf⟩ := hf
  refine J_callK (as := [.int 32]) (rest := []) (sy := [.int x4]) Z.1 dX10_beginInstr_77 cw_X10_101 (pX5_does_ok G (dk - 1) (by omega) hE q5) (kO Z.1 t3) (zG Z) rfl (by decide) (zF Z (by omega)) (zO Z (by omega) (by decide)) (zM _) Z.2.1 Z.2.1 rfl rfl ?_
  refine J_if_eq Z.1 94 dX10_beginInstr_80 (by decide) (fun c6 => ?_) (fun c6 => ?_)
  · rw [if_pos c6] at hf
    exact pX10_beginInstr_b94_ok Z hK hE t0  _ _ hf
  · rw [if_neg c6] at hf
    refine J_iload Z.1 4 dX10_beginInstr_83 rfl ?_
    refine J_aload_n Z.1 0 dX10_beginInstr_85 rfl rfl ?_
    refine J_get (v := .int (hI h this 12)) Z.1 dX10_beginInstr_86 fl_X10_64 t0 rfl ?_
    refine J_callS (as := [.int l4, .int (hI h this 12)]) (rest := []) (sy := [.int (pJ9_max_7cf53 l4 (hI h this 12))]) Z.1 dX10_beginInstr_89 cw_X10_77 (pJ9_max_7cf53_ok G (dk - 1) (by omega) g h l4 (hI h this 12)) (zG Z) rfl (by decide) (zF Z (by omega)) (zO Z (by omega) (by decide)) (zM _) Z.2.1 Z.2.1 rfl rfl ?_
    refine J_ti (fun x7 ex7 => ?_)
    replace hf := lt_i hf x7 ex7
    refine J_istore Z.1 (lv2 := [(4, .int x7), (0, va_rf (some this)), (1, .int p1), (2, va_rf (some p2)), (3, .int p3)]) dX10_beginInstr_92 (zL Z (by decide)) rfl ?_
    refine J_lv [1, 2, 3, 4, 0] rfl ?_
    exact pX10_beginInstr_b94_ok Z hK hE t0  _ _ hf
def pX10_beginInstr_b53 (E : EC) (g : MT) (this : Nat) (p1 : Int32) (p2 : Nat) (p3 : Int32) (l4 : Int32) (h : CT) : Option CT := tg g p2 2 (bd (pX2_usesMask E g h p2) fun x2 => (if x2 = 0 then pX10_beginInstr_b71 E g this p1 p2 p3  l4 h else lt (pJ9_max_7cf53 l4 (hI h this 11)) fun x5 => (pX10_beginInstr_b71 E g this p1 p2 p3  x5 h)))
set_option maxRecDepth 10000 in
set_option maxHeartbeats 4000000 in
theorem pX10_beginInstr_b53_ok {X : Cx} {G : Gx} {dk : Nat} {g : MT} {h0 : CT} {this : Nat} {p1 : Int32} {p2 : Nat} {p3 : Int32} (Z : Zx X G cX10_beginInstr RX10 6 dk none none g h0) (hK : 2 ≤ dk) {E : EC} (hE : G.2.2.2 = E) (t0 : gT g this = 9) (l4 : Int32) (h : CT) (hf : pX10_beginInstr_b53 E g this p1 p2 p3 l4 h = some h0) : J X g h 53 [(0, va_rf (some this)), (1, .int p1), (2, va_rf (some p2)), (3, .int p3), (4, .int l4)] [] := by
  unfold pX10_beginInstr_b53 at hf
  refine J_aload_n Z.1 2 dX10_beginInstr_53 rfl rfl ?_
  replace hf := tg_i hf
  obtain ⟨t1, hf⟩ := hf
  replace hf := bd_i hf
  obtain ⟨x2, q3, hf⟩ := hf
  refine J_callV (ci := 1) (as := []) (rest := []) (sy := [.int x2]) Z.1 dX10_beginInstr_54 cw_X10_97 (pX2_usesMask_ok G (dk - 1) (by omega) hE q3) rfl rfl t1 (zG Z) rfl (by decide) (zF Z (by omega)) (zO Z (by omega) (by decide)) (zM _) Z.2.1 Z.2.1 rfl rfl ?_
  refine J_if_eq Z.1 71 dX10_beginInstr_57 (by decide) (fun c4 => ?_) (fun c4 => ?_)
  · rw [if_pos c4] at hf
    exact pX10_beginInstr_b71_ok Z hK hE t0  _ _ hf
  · rw [if_neg c4] at hf
    refine J_iload Z.1 4 dX10_beginInstr_60 rfl ?_
    refine J_aload_n Z.1 0 dX10_beginInstr_62 rfl rfl ?_
    refine J_get (v := .int (hI h this 11)) Z.1 dX10_beginInstr_63 fl_X10_61 t0 rfl ?_
    refine J_callS (as := [.int l4, .int (hI h this 11)]) (rest := []) (sy := [.int (pJ9_max_7cf53 l4 (hI h this 11))]) Z.1 dX10_beginInstr_66 cw_X10_77 (pJ9_max_7cf53_ok G (dk - 1) (by omega) g h l4 (hI h this 11)) (zG Z) rfl (by decide) (zF Z (by omega)) (zO Z (by omega) (by decide)) (zM _) Z.2.1 Z.2.1 rfl rfl ?_
    refine J_ti (fun x5 ex5 => ?_)
    replace hf := lt_i hf x5 ex5
    refine J_istore Z.1 (lv2 := [(4, .int x5), (0, va_rf (some this)), (1, .int p1), (2, va_rf (some p2)), (3, .int p3)]) dX10_beginInstr_69 (zL Z (by decide)) rfl ?_
    refine J_lv [1, 2, 3, 4, 0] rfl ?_
    exact pX10_beginInstr_b71_ok Z hK hE t0  _ _ hf
def pX10_beginInstr (E : EC) (g : MT) (h : CT) (this : Nat) (p1 : Int32) (p2 : Nat) (p3 : Int32) : Option CT := tg g this 9 (lt (pJ9_max_7cf53 ((hI h this 8) + 1) (hI h this 9)) fun x1 => (tg g p2 2 (lt (hR h p2 0) fun r3 => (nn r3 fun a3 => (tg E.2.2 a3 60 (lt (hI E.2.1 a3 2) fun x5 => (if x5 < 0 then pX10_beginInstr_b53 E g this p1 p2 p3  x1 h else lt (hR h this 13) fun r7 => (nn r7 fun a7 => (tg g a7 20 (if (Int32.ofNat (gL g a7)) ≤ x5 then pX10_beginInstr_b53 E g this p1 p2 p3  x1 h else lt (hR h this 13) fun r10 => (nn r10 fun a10 => (tg g a10 20 (ix (gL g a10) x5 (lt (pJ9_max_7cf53 x1 (hI h a10 (Int32.toNatClampNeg x5))) fun x13 => (pX10_beginInstr_b53 E g this p1 p2 p3  x13 h)))))))))))))))
set_option maxRecDepth 10000 in
set_option maxHeartbeats 4000000 in
theorem pX10_beginInstr_ok (G : Gx) (dk : Nat) (hK : 2 ≤ dk) {g : MT} {E : EC} (hE : G.2.2.2 = E) {h h0 : CT} {this : Nat} {p1 : Int32} {p2 : Nat} {p3 : Int32} (hf : pX10_beginInstr E g h this p1 p2 p3 = some h0) : Ctr G dk yX10_beginInstr cX10_beginInstr 6 none [va_rf (some this), .int p1, va_rf (some p2), .int p3] g h none g h0 := by
  refine Ctr.ofZ (lv := [(0, va_rf (some this)), (1, .int p1), (2, va_rf (some p2)), (3, .int p3)]) (by decide +kernel) (by simp [cat_i, cat_l, cat_d, cat_rf]) rfl fun X Z => ?_
  unfold pX10_beginInstr at hf
  replace hf := tg_i hf
  obtain ⟨t0, hf⟩ := hf
  refine J_aload_n Z.1 0 dX10_beginInstr_0 rfl rfl ?_
  refine J_get (v := .int (hI h this 8)) Z.1 dX10_beginInstr_1 fl_X10_52 t0 rfl ?_
  refine J_iconst Z.1 (v := 1) (by decide) dX10_beginInstr_4 ?_
  refine J_iadd Z.1 dX10_beginInstr_5 ?_
  refine J_aload_n Z.1 0 dX10_beginInstr_6 rfl rfl ?_
  refine J_get (v := .int (hI h this 9)) Z.1 dX10_beginInstr_7 fl_X10_55 t0 rfl ?_
  refine J_callS (as := [.int ((hI h this 8) + 1), .int (hI h this 9)]) (rest := []) (sy := [.int (pJ9_max_7cf53 ((hI h this 8) + 1) (hI h this 9))]) Z.1 dX10_beginInstr_10 cw_X10_77 (pJ9_max_7cf53_ok G (dk - 1) (by omega) g h ((hI h this 8) + 1) (hI h this 9)) (zG Z) rfl (by decide) (zF Z (by omega)) (zO Z (by omega) (by decide)) (zM _) Z.2.1 Z.2.1 rfl rfl ?_
  refine J_ti (fun x1 ex1 => ?_)
  replace hf := lt_i hf x1 ex1
  refine J_istore Z.1 (lv2 := [(4, .int x1), (0, va_rf (some this)), (1, .int p1), (2, va_rf (some p2)), (3, .int p3)]) dX10_beginInstr_13 (zL Z (by decide)) rfl ?_
  refine J_aload_n Z.1 3 dX10_beginInstr_15 rfl rfl ?_
  replace hf := tg_i hf
  obtain ⟨t2, hf⟩ := hf
  refine J_get (v := va_rf (hR h p2 0)) Z.1 dX10_beginInstr_16 fl_X10_86 t2 rfl ?_
  refine J_tr (fun r3 er3 => ?_)
  replace hf := lt_i hf r3 er3
  replace hf := nn_i hf
  obtain ⟨a3, rfl, hf⟩ := hf
  replace hf := tg_i hf
  obtain ⟨t4, hf⟩ := hf
  rw [← zE Z hE] at t4
  refine J_getO (k := 2) (v := .int (hI E.2.1 a3 2)) Z.1 dX10_beginInstr_19 rfl t4 q_2180 (by rw [zE Z hE]; rfl) rfl ?_
  refine J_ti (fun x5 ex5 => ?_)
  replace hf := lt_i hf x5 ex5
  refine J_istore Z.1 (lv2 := [(5, .int x5), (4, .int x1), (0, va_rf (some this)), (1, .int p1), (2, va_rf (some p2)), (3, .int p3)]) dX10_beginInstr_22 (zL Z (by decide)) rfl ?_
  refine J_iload Z.1 0 dX10_beginInstr_24 rfl ?_
  refine J_if_lt Z.1 53 dX10_beginInstr_26 (by decide) (fun c6 => ?_) (fun c6 => ?_)
  · rw [if_pos c6] at hf
    refine J_lv [2, 3, 4, 5, 1] rfl ?_
    exact pX10_beginInstr_b53_ok Z hK hE t0  _ _ hf
  · rw [if_neg c6] at hf
    refine J_iload Z.1 0 dX10_beginInstr_29 rfl ?_
    refine J_aload_n Z.1 2 dX10_beginInstr_31 rfl rfl ?_
    refine J_get (v := va_rf (hR h this 13)) Z.1 dX10_beginInstr_32 fl_X10_21 t0 rfl ?_
    refine J_tr (fun r7 er7 => ?_)
    replace hf := lt_i hf r7 er7
    replace hf := nn_i hf
    obtain ⟨a7, rfl, hf⟩ := hf
    replace hf := tg_i hf
    obtain ⟨t8, hf⟩ := hf
    refine J_alen (t := 0) Z.1 dX10_beginInstr_35 t8 rfl ?_
    refine J_icmp_ge Z.1 53 dX10_beginInstr_36 (by decide) (fun c9 => ?_) (fun c9 => ?_)
    · rw [if_pos c9] at hf
      refine J_lv [2, 3, 4, 5, 1] rfl ?_
      exact pX10_beginInstr_b53_ok Z hK hE t0  _ _ hf
    · rw [if_neg c9] at hf
      refine J_iload Z.1 1 dX10_beginInstr_39 rfl ?_
      refine J_aload_n Z.1 2 dX10_beginInstr_41 rfl rfl ?_
      refine J_get (v := va_rf (hR h this 13)) Z.1 dX10_beginInstr_42 fl_X10_21 t0 rfl ?_
      refine J_tr (fun r10 er10 => ?_)
      replace hf := lt_i hf r10 er10
      refine J_iload Z.1 0 dX10_beginInstr_45 rfl ?_
      replace hf := nn_i hf
      obtain ⟨a10, rfl, hf⟩ := hf
      replace hf := tg_i hf
      obtain ⟨t11, hf⟩ := hf
      replace hf := ix_i hf
      obtain ⟨i12, hf⟩ := hf
      refine J_iaload Z.1 dX10_beginInstr_47 t11 i12 ?_
      refine J_callS (as := [.int x1, .int (hI h a10 (Int32.toNatClampNeg x5))]) (rest := []) (sy := [.int (pJ9_max_7cf53 x1 (hI h a10 (Int32.toNatClampNeg x5)))]) Z.1 dX10_beginInstr_48 cw_X10_77 (pJ9_max_7cf53_ok G (dk - 1) (by omega) g h x1 (hI h a10 (Int32.toNatClampNeg x5))) (zG Z) rfl (by decide) (zF Z (by omega)) (zO Z (by omega) (by decide)) (zM _) Z.2.1 Z.2.1 rfl rfl ?_
      refine J_ti (fun x13 ex13 => ?_)
      replace hf := lt_i hf x13 ex13
      refine J_istore Z.1 (lv2 := [(4, .int x13), (5, .int x5), (0, va_rf (some this)), (1, .int p1), (2, va_rf (some p2)), (3, .int p3)]) dX10_beginInstr_51 (zL Z (by decide)) rfl ?_
      refine J_lv [2, 3, 4, 5, 0] rfl ?_
      exact pX10_beginInstr_b53_ok Z hK hE t0  _ _ hf
