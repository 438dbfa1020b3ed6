/-! written by wip/whole/gen.py out of the printed bytecode -/
theorem dJ9_max_7cf53_0 : decode cJ9_max_7cf53 0 = .ok (.iload_n 0, 1) := by decide +kernel
theorem dJ9_max_7cf53_1 : decode cJ9_max_7cf53 1 = .ok (.iload_n 1, 1) := by decide +kernel
theorem dJ9_max_7cf53_2 : decode cJ9_max_7cf53 2 = .ok (.if_icmp .lt 7, 3) := by decide +kernel
theorem dJ9_max_7cf53_5 : decode cJ9_max_7cf53 5 = .ok (.iload_n 0, 1) := by decide +kernel
theorem dJ9_max_7cf53_6 : decode cJ9_max_7cf53 6 = .ok (.goto 4, 3) := by decide +kernel
theorem dJ9_max_7cf53_9 : decode cJ9_max_7cf53 9 = .ok (.iload_n 1, 1) := by decide +kernel
theorem dJ9_max_7cf53_10 : decode cJ9_max_7cf53 10 = .ok (.ireturn, 1) := by decide +kernel
def pJ9_max_7cf53 (p0 : Int32) (p1 : Int32) : Int32 := if p0 < p1 then p1 else p0
set_option maxRecDepth 10000 in
set_option maxHeartbeats 4000000 in
theorem pJ9_max_7cf53_ok (G : Gx) (dk : Nat) (hK : 0 ≤ dk) (g : MT) (h0 : CT) (p0 : Int32) (p1 : Int32) : Ctr G dk yJ9_max_7cf53 cJ9_max_7cf53 2 (some .int) [.int p0, .int p1] g h0 (some (.int (pJ9_max_7cf53 p0 p1))) g h0 := by
  obtain ⟨r0, hf⟩ : ∃ z, pJ9_max_7cf53 p0 p1 = z := ⟨_, rfl⟩
  rw [hf]
  refine Ctr.ofZ (lv := [(0, .int p0), (1, .int p1)]) (by decide +kernel) (by simp [cat_i, cat_l, cat_d, cat_rf]) rfl fun X Z => ?_
  unfold pJ9_max_7cf53 at hf
  refine J_iload_n Z.1 0 dJ9_max_7cf53_0 rfl rfl ?_
  refine J_iload_n Z.1 1 dJ9_max_7cf53_1 rfl rfl ?_
  refine J_icmp_lt Z.1 9 dJ9_max_7cf53_2 (by decide) (fun c1 => ?_) (fun c1 => ?_)
  · rw [if_pos c1] at hf
    refine J_iload_n Z.1 1 dJ9_max_7cf53_9 rfl rfl ?_
    cases hf
    exact J_iret Z.1 Z.2.2.2.2.2 dJ9_max_7cf53_10
  · rw [if_neg c1] at hf
    refine J_iload_n Z.1 0 dJ9_max_7cf53_5 rfl rfl ?_
    refine J_goto Z.1 10 dJ9_max_7cf53_6 (by decide) ?_
    cases hf
    exact J_iret Z.1 Z.2.2.2.2.2 dJ9_max_7cf53_10
theorem dJ9_min_7cf53_0 : decode cJ9_min_7cf53 0 = .ok (.iload_n 0, 1) := by decide +kernel
theorem dJ9_min_7cf53_1 : decode cJ9_min_7cf53 1 = .ok (.iload_n 1, 1) := by decide +kernel
theorem dJ9_min_7cf53_2 : decode cJ9_min_7cf53 2 = .ok (.if_icmp .gt 7, 3) := by decide +kernel
theorem dJ9_min_7cf53_5 : decode cJ9_min_7cf53 5 = .ok (.iload_n 0, 1) := by decide +kernel
theorem dJ9_min_7cf53_6 : decode cJ9_min_7cf53 6 = .ok (.goto 4, 3) := by decide +kernel
theorem dJ9_min_7cf53_9 : decode cJ9_min_7cf53 9 = .ok (.iload_n 1, 1) := by decide +kernel
theorem dJ9_min_7cf53_10 : decode cJ9_min_7cf53 10 = .ok (.ireturn, 1) := by decide +kernel
def pJ9_min_7cf53 (p0 : Int32) (p1 : Int32) : Int32 := if p1 < p0 then p1 else p0
set_option maxRecDepth 10000 in
set_option maxHeartbeats 4000000 in
theorem pJ9_min_7cf53_ok (G : Gx) (dk : Nat) (hK : 0 ≤ dk) (g : MT) (h0 : CT) (p0 : Int32) (p1 : Int32) : Ctr G dk yJ9_min_7cf53 cJ9_min_7cf53 2 (some .int) [.int p0, .int p1] g h0 (some (.int (pJ9_min_7cf53 p0 p1))) g h0 := by
  obtain ⟨r0, hf⟩ : ∃ z, pJ9_min_7cf53 p0 p1 = z := ⟨_, rfl⟩
  rw [hf]
  refine Ctr.ofZ (lv := [(0, .int p0), (1, .int p1)]) (by decide +kernel) (by simp [cat_i, cat_l, cat_d, cat_rf]) rfl fun X Z => ?_
  unfold pJ9_min_7cf53 at hf
  refine J_iload_n Z.1 0 dJ9_min_7cf53_0 rfl rfl ?_
  refine J_iload_n Z.1 1 dJ9_min_7cf53_1 rfl rfl ?_
  refine J_icmp_gt Z.1 9 dJ9_min_7cf53_2 (by decide) (fun c1 => ?_) (fun c1 => ?_)
  · rw [if_pos c1] at hf
    refine J_iload_n Z.1 1 dJ9_min_7cf53_9 rfl rfl ?_
    cases hf
    exact J_iret Z.1 Z.2.2.2.2.2 dJ9_min_7cf53_10
  · rw [if_neg c1] at hf
    refine J_iload_n Z.1 0 dJ9_min_7cf53_5 rfl rfl ?_
    refine J_goto Z.1 10 dJ9_min_7cf53_6 (by decide) ?_
    cases hf
    exact J_iret Z.1 Z.2.2.2.2.2 dJ9_min_7cf53_10
theorem dJ7_fill_53178_0 : decode cJ7_fill_53178 0 = .ok (.iconst 0, 1) := by decide +kernel
theorem dJ7_fill_53178_1 : decode cJ7_fill_53178 1 = .ok (.istore_n 2, 1) := by decide +kernel
theorem dJ7_fill_53178_2 : decode cJ7_fill_53178 2 = .ok (.aload_n 0, 1) := by decide +kernel
theorem dJ7_fill_53178_3 : decode cJ7_fill_53178 3 = .ok (.arraylength, 1) := by decide +kernel
theorem dJ7_fill_53178_4 : decode cJ7_fill_53178 4 = .ok (.istore_n 3, 1) := by decide +kernel
theorem dJ7_fill_53178_5 : decode cJ7_fill_53178 5 = .ok (.iload_n 2, 1) := by decide +kernel
theorem dJ7_fill_53178_6 : decode cJ7_fill_53178 6 = .ok (.iload_n 3, 1) := by decide +kernel
theorem dJ7_fill_53178_7 : decode cJ7_fill_53178 7 = .ok (.if_icmp .ge 13, 3) := by decide +kernel
theorem dJ7_fill_53178_10 : decode cJ7_fill_53178 10 = .ok (.aload_n 0, 1) := by decide +kernel
theorem dJ7_fill_53178_11 : decode cJ7_fill_53178 11 = .ok (.iload_n 2, 1) := by decide +kernel
theorem dJ7_fill_53178_12 : decode cJ7_fill_53178 12 = .ok (.iload_n 1, 1) := by decide +kernel
theorem dJ7_fill_53178_13 : decode cJ7_fill_53178 13 = .ok (.iastore, 1) := by decide +kernel
theorem dJ7_fill_53178_14 : decode cJ7_fill_53178 14 = .ok (.iinc 2 1, 3) := by decide +kernel
theorem dJ7_fill_53178_17 : decode cJ7_fill_53178 17 = .ok (.goto (-12), 3) := by decide +kernel
theorem dJ7_fill_53178_20 : decode cJ7_fill_53178 20 = .ok (.return_, 1) := by decide +kernel
def pJ7_fill_53178_b5 (g : MT) (p0 : Nat) (p1 : Int32) (k5 : Int32 → Int32 → CT → Option CT) (l2 : Int32) (l3 : Int32) (h : CT) : Option CT := if l3 ≤ l2 then some h else tg g p0 20 (ix (gL g p0) l2 (lt (sI h p0 (Int32.toNatClampNeg l2) p1) fun h4 => (lt (l2 + 1) fun x5 => (k5 x5 l3 h4))))
set_option maxRecDepth 10000 in
set_option maxHeartbeats 4000000 in
theorem pJ7_fill_53178_b5_ok {X : Cx} {G : Gx} {dk : Nat} {g : MT} {h0 : CT} {p0 : Nat} {p1 : Int32} {k5 : Int32 → Int32 → CT → Option CT} (Z : Zx X G cJ7_fill_53178 RJ7 4 dk none none g h0) (hK : 0 ≤ dk) (hk5 : ∀ (l2 : Int32) (l3 : Int32) (h : CT), k5 l2 l3 h = some h0 → J X g h 5 [(0, va_rf (some p0)), (1, .int p1), (2, .int l2), (3, .int l3)] []) (l2 : Int32) (l3 : Int32) (h : CT) (hf : pJ7_fill_53178_b5 g p0 p1 k5 l2 l3 h = some h0) : J X g h 5 [(0, va_rf (some p0)), (1, .int p1), (2, .int l2), (3, .int l3)] [] := by
  unfold pJ7_fill_53178_b5 at hf
  refine J_iload_n Z.1 2 dJ7_fill_53178_5 rfl rfl ?_
  refine J_iload_n Z.1 3 dJ7_fill_53178_6 rfl rfl ?_
  refine J_icmp_ge Z.1 20 dJ7_fill_53178_7 (by decide) (fun c1 => ?_) (fun c1 => ?_)
  · rw [if_pos c1] at hf
    cases hf
    exact J_vret Z.1 Z.2.2.2.2.2 dJ7_fill_53178_20
  · rw [if_neg c1] at hf
    refine J_aload_n Z.1 0 dJ7_fill_53178_10 rfl rfl ?_
    refine J_iload_n Z.1 2 dJ7_fill_53178_11 rfl rfl ?_
    refine J_iload_n Z.1 1 dJ7_fill_53178_12 rfl rfl ?_
    replace hf := tg_i hf
    obtain ⟨t2, hf⟩ := hf
    replace hf := ix_i hf
    obtain ⟨i3, hf⟩ := hf
    refine J_iastore Z.1 dJ7_fill_53178_13 t2 i3 ?_
    refine J_th (fun h4 eh4 => ?_)
    replace hf := lt_i hf h4 eh4
    refine J_iinc Z.1 (v := 1) (lv2 := [(2, .int (l2 + 1)), (0, va_rf (some p0)), (1, .int p1), (3, .int l3)]) 2 dJ7_fill_53178_14 rfl (by decide) (zL Z (by decide)) rfl ?_
    obtain ⟨x5, ex5⟩ : ∃ z, z = (l2 + 1) := ⟨_, rfl⟩
    replace hf := lt_i hf x5 ex5
    rw [← ex5]
    refine J_goto Z.1 5 dJ7_fill_53178_17 (by decide) ?_
    refine J_lv [1, 2, 0, 3] rfl ?_
    exact hk5 _ _ _ hf
def pJ7_fill_53178_l5 (g : MT) (p0 : Nat) (p1 : Int32) : Nat → Int32 → Int32 → CT → Option CT
  | 0, _, _, _ => none
  | n + 1, l2, l3, h => pJ7_fill_53178_b5 g p0 p1 (pJ7_fill_53178_l5 g p0 p1 n) l2 l3 h
theorem pJ7_fill_53178_l5_ok {X : Cx} {G : Gx} {dk : Nat} {g : MT} {h0 : CT} {p0 : Nat} {p1 : Int32} (Z : Zx X G cJ7_fill_53178 RJ7 4 dk none none g h0) (hK : 0 ≤ dk) : ∀ (n : Nat) (l2 : Int32) (l3 : Int32) (h : CT), pJ7_fill_53178_l5 g p0 p1 n l2 l3 h = some h0 → J X g h 5 [(0, va_rf (some p0)), (1, .int p1), (2, .int l2), (3, .int l3)] [] := by
  intro n
  induction n with
  | zero => intro l2 l3 h hf; cases hf
  | succ n ih => intro l2 l3 h hf; exact pJ7_fill_53178_b5_ok Z hK ih l2 l3 h hf
def pJ7_fill_53178 (g : MT) (h : CT) (p0 : Nat) (p1 : Int32) : Option CT := tg g p0 20 (lt (Int32.ofNat (gL g p0)) fun x2 => (pJ7_fill_53178_l5 g p0 p1  FUEL 0 x2 h))
set_option maxRecDepth 10000 in
set_option maxHeartbeats 4000000 in
theorem pJ7_fill_53178_ok (G : Gx) (dk : Nat) (hK : 0 ≤ dk) {g : MT} {h h0 : CT} {p0 : Nat} {p1 : Int32} (hf : pJ7_fill_53178 g h p0 p1 = some h0) : Ctr G dk yJ7_fill_53178 cJ7_fill_53178 4 none [va_rf (some p0), .int p1] g h none g h0 := by
  refine Ctr.ofZ (lv := [(0, va_rf (some p0)), (1, .int p1)]) (by decide +kernel) (by simp [cat_i, cat_l, cat_d, cat_rf]) rfl fun X Z => ?_
  unfold pJ7_fill_53178 at hf
  refine J_iconst Z.1 (v := 0) (by decide) dJ7_fill_53178_0 ?_
  refine J_istore_n Z.1 (lv2 := [(2, .int 0), (0, va_rf (some p0)), (1, .int p1)]) dJ7_fill_53178_1 rfl (zL Z (by decide)) rfl ?_
  refine J_aload_n Z.1 1 dJ7_fill_53178_2 rfl rfl ?_
  replace hf := tg_i hf
  obtain ⟨t1, hf⟩ := hf
  refine J_alen (t := 0) Z.1 dJ7_fill_53178_3 t1 rfl ?_
  refine J_ti (fun x2 ex2 => ?_)
  replace hf := lt_i hf x2 ex2
  refine J_istore_n Z.1 (lv2 := [(3, .int x2), (2, .int 0), (0, va_rf (some p0)), (1, .int p1)]) dJ7_fill_53178_4 rfl (zL Z (by decide)) rfl ?_
  refine J_lv [2, 3, 1, 0] rfl ?_
  exact pJ7_fill_53178_l5_ok Z hK  FUEL _ _ _ hf
theorem dJ7_fill_d0a16_0 : decode cJ7_fill_d0a16 0 = .ok (.iconst 0, 1) := by decide +kernel
theorem dJ7_fill_d0a16_1 : decode cJ7_fill_d0a16 1 = .ok (.istore_n 3, 1) := by decide +kernel
theorem dJ7_fill_d0a16_2 : decode cJ7_fill_d0a16 2 = .ok (.aload_n 0, 1) := by decide +kernel
theorem dJ7_fill_d0a16_3 : decode cJ7_fill_d0a16 3 = .ok (.arraylength, 1) := by decide +kernel
theorem dJ7_fill_d0a16_4 : decode cJ7_fill_d0a16 4 = .ok (.istore 4, 2) := by decide +kernel
theorem dJ7_fill_d0a16_6 : decode cJ7_fill_d0a16 6 = .ok (.iload_n 3, 1) := by decide +kernel
theorem dJ7_fill_d0a16_7 : decode cJ7_fill_d0a16 7 = .ok (.iload 4, 2) := by decide +kernel
theorem dJ7_fill_d0a16_9 : decode cJ7_fill_d0a16 9 = .ok (.if_icmp .ge 13, 3) := by decide +kernel
theorem dJ7_fill_d0a16_12 : decode cJ7_fill_d0a16 12 = .ok (.aload_n 0, 1) := by decide +kernel
theorem dJ7_fill_d0a16_13 : decode cJ7_fill_d0a16 13 = .ok (.iload_n 3, 1) := by decide +kernel
theorem dJ7_fill_d0a16_14 : decode cJ7_fill_d0a16 14 = .ok (.lload_n 1, 1) := by decide +kernel
theorem dJ7_fill_d0a16_15 : decode cJ7_fill_d0a16 15 = .ok (.lastore, 1) := by decide +kernel
theorem dJ7_fill_d0a16_16 : decode cJ7_fill_d0a16 16 = .ok (.iinc 3 1, 3) := by decide +kernel
theorem dJ7_fill_d0a16_19 : decode cJ7_fill_d0a16 19 = .ok (.goto (-13), 3) := by decide +kernel
theorem dJ7_fill_d0a16_22 : decode cJ7_fill_d0a16 22 = .ok (.return_, 1) := by decide +kernel
def pJ7_fill_d0a16_b6 (g : MT) (p0 : Nat) (p1 : Int64) (k6 : Int32 → Int32 → CT → Option CT) (l3 : Int32) (l4 : Int32) (h : CT) : Option CT := if l4 ≤ l3 then some h else tg g p0 21 (ix (gL g p0) l3 (lt (sL h p0 (Int32.toNatClampNeg l3) p1) fun h4 => (lt (l3 + 1) fun x5 => (k6 x5 l4 h4))))
set_option maxRecDepth 10000 in
set_option maxHeartbeats 4000000 in
theorem pJ7_fill_d0a16_b6_ok {X : Cx} {G : Gx} {dk : Nat} {g : MT} {h0 : CT} {p0 : Nat} {p1 : Int64} {k6 : Int32 → Int32 → CT → Option CT} (Z : Zx X G cJ7_fill_d0a16 RJ7 5 dk none none g h0) (hK : 0 ≤ dk) (hk6 : ∀ (l3 : Int32) (l4 : Int32) (h : CT), k6 l3 l4 h = some h0 → J X g h 6 [(0, va_rf (some p0)), (1, .long p1), (3, .int l3), (4, .int l4)] []) (l3 : Int32) (l4 : Int32) (h : CT) (hf : pJ7_fill_d0a16_b6 g p0 p1 k6 l3 l4 h = some h0) : J X g h 6 [(0, va_rf (some p0)), (1, .long p1), (3, .int l3), (4, .int l4)] [] := by
  unfold pJ7_fill_d0a16_b6 at hf
  refine J_iload_n Z.1 2 dJ7_fill_d0a16_6 rfl rfl ?_
  refine J_iload Z.1 3 dJ7_fill_d0a16_7 rfl ?_
  refine J_icmp_ge Z.1 22 dJ7_fill_d0a16_9 (by decide) (fun c1 => ?_) (fun c1 => ?_)
  · rw [if_pos c1] at hf
    cases hf
    exact J_vret Z.1 Z.2.2.2.2.2 dJ7_fill_d0a16_22
  · rw [if_neg c1] at hf
    refine J_aload_n Z.1 0 dJ7_fill_d0a16_12 rfl rfl ?_
    refine J_iload_n Z.1 2 dJ7_fill_d0a16_13 rfl rfl ?_
    refine J_lload_n Z.1 1 dJ7_fill_d0a16_14 rfl rfl ?_
    replace hf := tg_i hf
    obtain ⟨t2, hf⟩ := hf
    replace hf := ix_i hf
    obtain ⟨i3, hf⟩ := hf
    refine J_lastore Z.1 dJ7_fill_d0a16_15 t2 i3 ?_
    refine J_th (fun h4 eh4 => ?_)
    replace hf := lt_i hf h4 eh4
    refine J_iinc Z.1 (v := 1) (lv2 := [(3, .int (l3 + 1)), (0, va_rf (some p0)), (1, .long p1), (4, .int l4)]) 2 dJ7_fill_d0a16_16 rfl (by decide) (zL Z (by decide)) rfl ?_
    obtain ⟨x5, ex5⟩ : ∃ z, z = (l3 + 1) := ⟨_, rfl⟩
    replace hf := lt_i hf x5 ex5
    rw [← ex5]
    refine J_goto Z.1 6 dJ7_fill_d0a16_19 (by decide) ?_
    refine J_lv [1, 2, 0, 3] rfl ?_
    exact hk6 _ _ _ hf
def pJ7_fill_d0a16_l6 (g : MT) (p0 : Nat) (p1 : Int64) : Nat → Int32 → Int32 → CT → Option CT
  | 0, _, _, _ => none
  | n + 1, l3, l4, h => pJ7_fill_d0a16_b6 g p0 p1 (pJ7_fill_d0a16_l6 g p0 p1 n) l3 l4 h
theorem pJ7_fill_d0a16_l6_ok {X : Cx} {G : Gx} {dk : Nat} {g : MT} {h0 : CT} {p0 : Nat} {p1 : Int64} (Z : Zx X G cJ7_fill_d0a16 RJ7 5 dk none none g h0) (hK : 0 ≤ dk) : ∀ (n : Nat) (l3 : Int32) (l4 : Int32) (h : CT), pJ7_fill_d0a16_l6 g p0 p1 n l3 l4 h = some h0 → J X g h 6 [(0, va_rf (some p0)), (1, .long p1), (3, .int l3), (4, .int l4)] [] := by
  intro n
  induction n with
  | zero => intro l3 l4 h hf; cases hf
  | succ n ih => intro l3 l4 h hf; exact pJ7_fill_d0a16_b6_ok Z hK ih l3 l4 h hf
def pJ7_fill_d0a16 (g : MT) (h : CT) (p0 : Nat) (p1 : Int64) : Option CT := tg g p0 21 (lt (Int32.ofNat (gL g p0)) fun x2 => (pJ7_fill_d0a16_l6 g p0 p1  FUEL 0 x2 h))
set_option maxRecDepth 10000 in
set_option maxHeartbeats 4000000 in
theorem pJ7_fill_d0a16_ok (G : Gx) (dk : Nat) (hK : 0 ≤ dk) {g : MT} {h h0 : CT} {p0 : Nat} {p1 : Int64} (hf : pJ7_fill_d0a16 g h p0 p1 = some h0) : Ctr G dk yJ7_fill_d0a16 cJ7_fill_d0a16 5 none [va_rf (some p0), .long p1] g h none g h0 := by
  refine Ctr.ofZ (lv := [(0, va_rf (some p0)), (1, .long p1)]) (by decide +kernel) (by simp [cat_i, cat_l, cat_d, cat_rf]) rfl fun X Z => ?_
  unfold pJ7_fill_d0a16 at hf
  refine J_iconst Z.1 (v := 0) (by decide) dJ7_fill_d0a16_0 ?_
  refine J_istore_n Z.1 (lv2 := [(3, .int 0), (0, va_rf (some p0)), (1, .long p1)]) dJ7_fill_d0a16_1 rfl (zL Z (by decide)) rfl ?_
  refine J_aload_n Z.1 1 dJ7_fill_d0a16_2 rfl rfl ?_
  replace hf := tg_i hf
  obtain ⟨t1, hf⟩ := hf
  refine J_alen (t := 1) Z.1 dJ7_fill_d0a16_3 t1 rfl ?_
  refine J_ti (fun x2 ex2 => ?_)
  replace hf := lt_i hf x2 ex2
  refine J_istore Z.1 (lv2 := [(4, .int x2), (3, .int 0), (0, va_rf (some p0)), (1, .long p1)]) dJ7_fill_d0a16_4 (zL Z (by decide)) rfl ?_
  refine J_lv [2, 3, 1, 0] rfl ?_
  exact pJ7_fill_d0a16_l6_ok Z hK  FUEL _ _ _ hf
theorem dJ6_bitCount_0f7a4_0 : decode cJ6_bitCount_0f7a4 0 = .ok (.iload_n 0, 1) := by decide +kernel
theorem dJ6_bitCount_0f7a4_1 : decode cJ6_bitCount_0f7a4 1 = .ok (.iload_n 0, 1) := by decide +kernel
theorem dJ6_bitCount_0f7a4_2 : decode cJ6_bitCount_0f7a4 2 = .ok (.iconst 1, 1) := by decide +kernel
theorem dJ6_bitCount_0f7a4_3 : decode cJ6_bitCount_0f7a4 3 = .ok (.iushr, 1) := by decide +kernel
theorem dJ6_bitCount_0f7a4_4 : decode cJ6_bitCount_0f7a4 4 = .ok (.ldc_w 265, 3) := by decide +kernel
theorem dJ6_bitCount_0f7a4_7 : decode cJ6_bitCount_0f7a4 7 = .ok (.iand, 1) := by decide +kernel
theorem dJ6_bitCount_0f7a4_8 : decode cJ6_bitCount_0f7a4 8 = .ok (.isub, 1) := by decide +kernel
theorem dJ6_bitCount_0f7a4_9 : decode cJ6_bitCount_0f7a4 9 = .ok (.istore_n 0, 1) := by decide +kernel
theorem dJ6_bitCount_0f7a4_10 : decode cJ6_bitCount_0f7a4 10 = .ok (.iload_n 0, 1) := by decide +kernel
theorem dJ6_bitCount_0f7a4_11 : decode cJ6_bitCount_0f7a4 11 = .ok (.ldc_w 266, 3) := by decide +kernel
theorem dJ6_bitCount_0f7a4_14 : decode cJ6_bitCount_0f7a4 14 = .ok (.iand, 1) := by decide +kernel
theorem dJ6_bitCount_0f7a4_15 : decode cJ6_bitCount_0f7a4 15 = .ok (.iload_n 0, 1) := by decide +kernel
theorem dJ6_bitCount_0f7a4_16 : decode cJ6_bitCount_0f7a4 16 = .ok (.iconst 2, 1) := by decide +kernel
theorem dJ6_bitCount_0f7a4_17 : decode cJ6_bitCount_0f7a4 17 = .ok (.iushr, 1) := by decide +kernel
theorem dJ6_bitCount_0f7a4_18 : decode cJ6_bitCount_0f7a4 18 = .ok (.ldc_w 266, 3) := by decide +kernel
theorem dJ6_bitCount_0f7a4_21 : decode cJ6_bitCount_0f7a4 21 = .ok (.iand, 1) := by decide +kernel
theorem dJ6_bitCount_0f7a4_22 : decode cJ6_bitCount_0f7a4 22 = .ok (.iadd, 1) := by decide +kernel
theorem dJ6_bitCount_0f7a4_23 : decode cJ6_bitCount_0f7a4 23 = .ok (.istore_n 0, 1) := by decide +kernel
theorem dJ6_bitCount_0f7a4_24 : decode cJ6_bitCount_0f7a4 24 = .ok (.iload_n 0, 1) := by decide +kernel
theorem dJ6_bitCount_0f7a4_25 : decode cJ6_bitCount_0f7a4 25 = .ok (.iload_n 0, 1) := by decide +kernel
theorem dJ6_bitCount_0f7a4_26 : decode cJ6_bitCount_0f7a4 26 = .ok (.iconst 4, 1) := by decide +kernel
theorem dJ6_bitCount_0f7a4_27 : decode cJ6_bitCount_0f7a4 27 = .ok (.iushr, 1) := by decide +kernel
theorem dJ6_bitCount_0f7a4_28 : decode cJ6_bitCount_0f7a4 28 = .ok (.iadd, 1) := by decide +kernel
theorem dJ6_bitCount_0f7a4_29 : decode cJ6_bitCount_0f7a4 29 = .ok (.ldc_w 267, 3) := by decide +kernel
theorem dJ6_bitCount_0f7a4_32 : decode cJ6_bitCount_0f7a4 32 = .ok (.iand, 1) := by decide +kernel
theorem dJ6_bitCount_0f7a4_33 : decode cJ6_bitCount_0f7a4 33 = .ok (.istore_n 0, 1) := by decide +kernel
theorem dJ6_bitCount_0f7a4_34 : decode cJ6_bitCount_0f7a4 34 = .ok (.iload_n 0, 1) := by decide +kernel
theorem dJ6_bitCount_0f7a4_35 : decode cJ6_bitCount_0f7a4 35 = .ok (.iload_n 0, 1) := by decide +kernel
theorem dJ6_bitCount_0f7a4_36 : decode cJ6_bitCount_0f7a4 36 = .ok (.bipush 8, 2) := by decide +kernel
theorem dJ6_bitCount_0f7a4_38 : decode cJ6_bitCount_0f7a4 38 = .ok (.iushr, 1) := by decide +kernel
theorem dJ6_bitCount_0f7a4_39 : decode cJ6_bitCount_0f7a4 39 = .ok (.iadd, 1) := by decide +kernel
theorem dJ6_bitCount_0f7a4_40 : decode cJ6_bitCount_0f7a4 40 = .ok (.istore_n 0, 1) := by decide +kernel
theorem dJ6_bitCount_0f7a4_41 : decode cJ6_bitCount_0f7a4 41 = .ok (.iload_n 0, 1) := by decide +kernel
theorem dJ6_bitCount_0f7a4_42 : decode cJ6_bitCount_0f7a4 42 = .ok (.iload_n 0, 1) := by decide +kernel
theorem dJ6_bitCount_0f7a4_43 : decode cJ6_bitCount_0f7a4 43 = .ok (.bipush 16, 2) := by decide +kernel
theorem dJ6_bitCount_0f7a4_45 : decode cJ6_bitCount_0f7a4 45 = .ok (.iushr, 1) := by decide +kernel
theorem dJ6_bitCount_0f7a4_46 : decode cJ6_bitCount_0f7a4 46 = .ok (.iadd, 1) := by decide +kernel
theorem dJ6_bitCount_0f7a4_47 : decode cJ6_bitCount_0f7a4 47 = .ok (.istore_n 0, 1) := by decide +kernel
theorem dJ6_bitCount_0f7a4_48 : decode cJ6_bitCount_0f7a4 48 = .ok (.iload_n 0, 1) := by decide +kernel
theorem dJ6_bitCount_0f7a4_49 : decode cJ6_bitCount_0f7a4 49 = .ok (.bipush 63, 2) := by decide +kernel
theorem dJ6_bitCount_0f7a4_51 : decode cJ6_bitCount_0f7a4 51 = .ok (.iand, 1) := by decide +kernel
theorem dJ6_bitCount_0f7a4_52 : decode cJ6_bitCount_0f7a4 52 = .ok (.ireturn, 1) := by decide +kernel
def pJ6_bitCount_0f7a4 (p0 : Int32) : Int32 := lt (p0 - (((Int32.toUInt32 p0 >>> (Int32.toUInt32 1 &&& Int32.toUInt32 31)).toInt32) &&& 1431655765)) fun x1 => (lt ((x1 &&& 858993459) + (((Int32.toUInt32 x1 >>> (Int32.toUInt32 2 &&& Int32.toUInt32 31)).toInt32) &&& 858993459)) fun x2 => (lt ((x2 + ((Int32.toUInt32 x2 >>> (Int32.toUInt32 4 &&& Int32.toUInt32 31)).toInt32)) &&& 252645135) fun x3 => (lt (x3 + ((Int32.toUInt32 x3 >>> (Int32.toUInt32 8 &&& Int32.toUInt32 31)).toInt32)) fun x4 => (lt (x4 + ((Int32.toUInt32 x4 >>> (Int32.toUInt32 16 &&& Int32.toUInt32 31)).toInt32)) fun x5 => ((x5 &&& 63))))))
set_option maxRecDepth 10000 in
set_option maxHeartbeats 4000000 in
theorem pJ6_bitCount_0f7a4_ok (G : Gx) (dk : Nat) (hK : 0 ≤ dk) (g : MT) (h0 : CT) (p0 : Int32) : Ctr G dk yJ6_bitCount_0f7a4 cJ6_bitCount_0f7a4 1 (some .int) [.int p0] g h0 (some (.int (pJ6_bitCount_0f7a4 p0))) g h0 := by
  obtain ⟨r0, hf⟩ : ∃ z, pJ6_bitCount_0f7a4 p0 = z := ⟨_, rfl⟩
  rw [hf]
  refine Ctr.ofZ (lv := [(0, .int p0)]) (by decide +kernel) (by simp [cat_i, cat_l, cat_d, cat_rf]) rfl fun X Z => ?_
  unfold pJ6_bitCount_0f7a4 at hf
  refine J_iload_n Z.1 0 dJ6_bitCount_0f7a4_0 rfl rfl ?_
  refine J_iload_n Z.1 0 dJ6_bitCount_0f7a4_1 rfl rfl ?_
  refine J_iconst Z.1 (v := 1) (by decide) dJ6_bitCount_0f7a4_2 ?_
  refine J_iushr Z.1 dJ6_bitCount_0f7a4_3 ?_
  refine J_ldcw Z.1 q_1048 dJ6_bitCount_0f7a4_4 ?_
  refine J_iand Z.1 dJ6_bitCount_0f7a4_7 ?_
  refine J_isub Z.1 dJ6_bitCount_0f7a4_8 ?_
  refine J_ti (fun x1 ex1 => ?_)
  replace hf := lt_i hf x1 ex1
  refine J_istore_n Z.1 (lv2 := [(0, .int x1)]) dJ6_bitCount_0f7a4_9 rfl (zL Z (by decide)) rfl ?_
  refine J_iload_n Z.1 0 dJ6_bitCount_0f7a4_10 rfl rfl ?_
  refine J_ldcw Z.1 q_1049 dJ6_bitCount_0f7a4_11 ?_
  refine J_iand Z.1 dJ6_bitCount_0f7a4_14 ?_
  refine J_iload_n Z.1 0 dJ6_bitCount_0f7a4_15 rfl rfl ?_
  refine J_iconst Z.1 (v := 2) (by decide) dJ6_bitCount_0f7a4_16 ?_
  refine J_iushr Z.1 dJ6_bitCount_0f7a4_17 ?_
  refine J_ldcw Z.1 q_1049 dJ6_bitCount_0f7a4_18 ?_
  refine J_iand Z.1 dJ6_bitCount_0f7a4_21 ?_
  refine J_iadd Z.1 dJ6_bitCount_0f7a4_22 ?_
  refine J_ti (fun x2 ex2 => ?_)
  replace hf := lt_i hf x2 ex2
  refine J_istore_n Z.1 (lv2 := [(0, .int x2)]) dJ6_bitCount_0f7a4_23 rfl (zL Z (by decide)) rfl ?_
  refine J_iload_n Z.1 0 dJ6_bitCount_0f7a4_24 rfl rfl ?_
  refine J_iload_n Z.1 0 dJ6_bitCount_0f7a4_25 rfl rfl ?_
  refine J_iconst Z.1 (v := 4) (by decide) dJ6_bitCount_0f7a4_26 ?_
  refine J_iushr Z.1 dJ6_bitCount_0f7a4_27 ?_
  refine J_iadd Z.1 dJ6_bitCount_0f7a4_28 ?_
  refine J_ldcw Z.1 q_1050 dJ6_bitCount_0f7a4_29 ?_
  refine J_iand Z.1 dJ6_bitCount_0f7a4_32 ?_
  refine J_ti (fun x3 ex3 => ?_)
  replace hf := lt_i hf x3 ex3
  refine J_istore_n Z.1 (lv2 := [(0, .int x3)]) dJ6_bitCount_0f7a4_33 rfl (zL Z (by decide)) rfl ?_
  refine J_iload_n Z.1 0 dJ6_bitCount_0f7a4_34 rfl rfl ?_
  refine J_iload_n Z.1 0 dJ6_bitCount_0f7a4_35 rfl rfl ?_
  refine J_bipush Z.1 (v := 8) (by decide) dJ6_bitCount_0f7a4_36 ?_
  refine J_iushr Z.1 dJ6_bitCount_0f7a4_38 ?_
  refine J_iadd Z.1 dJ6_bitCount_0f7a4_39 ?_
  refine J_ti (fun x4 ex4 => ?_)
  replace hf := lt_i hf x4 ex4
  refine J_istore_n Z.1 (lv2 := [(0, .int x4)]) dJ6_bitCount_0f7a4_40 rfl (zL Z (by decide)) rfl ?_
  refine J_iload_n Z.1 0 dJ6_bitCount_0f7a4_41 rfl rfl ?_
  refine J_iload_n Z.1 0 dJ6_bitCount_0f7a4_42 rfl rfl ?_
  refine J_bipush Z.1 (v := 16) (by decide) dJ6_bitCount_0f7a4_43 ?_
  refine J_iushr Z.1 dJ6_bitCount_0f7a4_45 ?_
  refine J_iadd Z.1 dJ6_bitCount_0f7a4_46 ?_
  refine J_ti (fun x5 ex5 => ?_)
  replace hf := lt_i hf x5 ex5
  refine J_istore_n Z.1 (lv2 := [(0, .int x5)]) dJ6_bitCount_0f7a4_47 rfl (zL Z (by decide)) rfl ?_
  refine J_iload_n Z.1 0 dJ6_bitCount_0f7a4_48 rfl rfl ?_
  refine J_bipush Z.1 (v := 63) (by decide) dJ6_bitCount_0f7a4_49 ?_
  refine J_iand Z.1 dJ6_bitCount_0f7a4_51 ?_
  cases hf
  exact J_iret Z.1 Z.2.2.2.2.2 dJ6_bitCount_0f7a4_52
theorem dJx29ce0_ordinal_8abf5_0 : decode cJx29ce0_ordinal_8abf5 0 = .ok (.aload_n 0, 1) := by decide +kernel
theorem dJx29ce0_ordinal_8abf5_1 : decode cJx29ce0_ordinal_8abf5 1 = .ok (.getfield 7, 3) := by decide +kernel
theorem dJx29ce0_ordinal_8abf5_4 : decode cJx29ce0_ordinal_8abf5 4 = .ok (.ireturn, 1) := by decide +kernel
def pJx29ce0_ordinal_8abf5 (E : EC) (g : MT) (h : CT) (this : Nat) : Option Int32 := tg E.2.2 this 60 (some (hI E.2.1 this 0))
set_option maxRecDepth 10000 in
set_option maxHeartbeats 4000000 in
theorem pJx29ce0_ordinal_8abf5_ok (G : Gx) (dk : Nat) (hK : 0 ≤ dk) {g : MT} {E : EC} (hE : G.2.2.2 = E) {h : CT} {this : Nat} {r0 : Int32} (hf : pJx29ce0_ordinal_8abf5 E g h this = some r0) : Ctr G dk yJx29ce0_ordinal_8abf5 cJx29ce0_ordinal_8abf5 1 (some .int) [va_rf (some this)] g h (some (.int r0)) g h := by
  refine Ctr.ofZ (lv := [(0, va_rf (some this))]) (by decide +kernel) (by simp [cat_i, cat_l, cat_d, cat_rf]) rfl fun X Z => ?_
  unfold pJx29ce0_ordinal_8abf5 at hf
  refine J_aload_n Z.1 0 dJx29ce0_ordinal_8abf5_0 rfl rfl ?_
  replace hf := tg_i hf
  obtain ⟨t1, hf⟩ := hf
  rw [← zE Z hE] at t1
  refine J_getO (k := 0) (v := .int (hI E.2.1 this 0)) Z.1 dJx29ce0_ordinal_8abf5_1 rfl t1 q_2183 (by rw [zE Z hE]; rfl) rfl ?_
  cases hf
  exact J_iret Z.1 Z.2.2.2.2.2 dJx29ce0_ordinal_8abf5_4
theorem dJ3_checkIndex_8e157_0 : decode cJ3_checkIndex_8e157 0 = .ok (.iload_n 0, 1) := by decide +kernel
theorem dJ3_checkIndex_8e157_1 : decode cJ3_checkIndex_8e157 1 = .ok (.ifCond .lt 8, 3) := by decide +kernel
theorem dJ3_checkIndex_8e157_4 : decode cJ3_checkIndex_8e157 4 = .ok (.iload_n 0, 1) := by decide +kernel
theorem dJ3_checkIndex_8e157_5 : decode cJ3_checkIndex_8e157 5 = .ok (.iload_n 1, 1) := by decide +kernel
theorem dJ3_checkIndex_8e157_6 : decode cJ3_checkIndex_8e157 6 = .ok (.if_icmp .lt 10, 3) := by decide +kernel
theorem dJ3_checkIndex_8e157_9 : decode cJ3_checkIndex_8e157 9 = .ok (.aload_n 2, 1) := by decide +kernel
theorem dJ3_checkIndex_8e157_10 : decode cJ3_checkIndex_8e157 10 = .ok (.iload_n 0, 1) := by decide +kernel
theorem dJ3_checkIndex_8e157_11 : decode cJ3_checkIndex_8e157 11 = .ok (.iload_n 1, 1) := by decide +kernel
theorem dJ3_checkIndex_8e157_12 : decode cJ3_checkIndex_8e157 12 = .ok (.invokestatic 95, 3) := by decide +kernel
theorem dJ3_checkIndex_8e157_15 : decode cJ3_checkIndex_8e157 15 = .ok (.athrow, 1) := by decide +kernel
theorem dJ3_checkIndex_8e157_16 : decode cJ3_checkIndex_8e157 16 = .ok (.iload_n 0, 1) := by decide +kernel
theorem dJ3_checkIndex_8e157_17 : decode cJ3_checkIndex_8e157 17 = .ok (.ireturn, 1) := by decide +kernel
def pJ3_checkIndex_8e157_b9 (g : MT) (h : CT) (p0 : Int32) (p1 : Int32) (p2 : Option Nat)  : Option Int32 := none
set_option maxRecDepth 10000 in
set_option maxHeartbeats 4000000 in
theorem pJ3_checkIndex_8e157_b9_ok {X : Cx} {G : Gx} {dk : Nat} {g : MT} {r0 : Int32} {h : CT} {p0 : Int32} {p1 : Int32} {p2 : Option Nat} (Z : Zx X G cJ3_checkIndex_8e157 RJ3 3 dk (some .int) (some (.int r0)) g h) (hK : 0 ≤ dk)  (hf : pJ3_checkIndex_8e157_b9 g h p0 p1 p2 = some r0) : J X g h 9 [(0, .int p0), (1, .int p1), (2, va_rf p2)] [] := by
  unfold pJ3_checkIndex_8e157_b9 at hf
  refine J_aload_n Z.1 2 dJ3_checkIndex_8e157_9 rfl rfl ?_
  refine J_iload_n Z.1 0 dJ3_checkIndex_8e157_10 rfl rfl ?_
  refine J_iload_n Z.1 1 dJ3_checkIndex_8e157_11 rfl rfl ?_
  cases hf
def pJ3_checkIndex_8e157 (g : MT) (h : CT) (p0 : Int32) (p1 : Int32) (p2 : Option Nat) : Option Int32 := if p0 < 0 then pJ3_checkIndex_8e157_b9 g h p0 p1 p2   else if p0 < p1 then some p0 else pJ3_checkIndex_8e157_b9 g h p0 p1 p2  
set_option maxRecDepth 10000 in
set_option maxHeartbeats 4000000 in
theorem pJ3_checkIndex_8e157_ok (G : Gx) (dk : Nat) (hK : 0 ≤ dk) {g : MT} {h : CT} {p0 : Int32} {p1 : Int32} {p2 : Option Nat} {r0 : Int32} (hf : pJ3_checkIndex_8e157 g h p0 p1 p2 = some r0) : Ctr G dk yJ3_checkIndex_8e157 cJ3_checkIndex_8e157 3 (some .int) [.int p0, .int p1, va_rf p2] g h (some (.int r0)) g h := by
  refine Ctr.ofZ (lv := [(0, .int p0), (1, .int p1), (2, va_rf p2)]) (by decide +kernel) (by simp [cat_i, cat_l, cat_d, cat_rf]) rfl fun X Z => ?_
  unfold pJ3_checkIndex_8e157 at hf
  refine J_iload_n Z.1 0 dJ3_checkIndex_8e157_0 rfl rfl ?_
  refine J_if_lt Z.1 9 dJ3_checkIndex_8e157_1 (by decide) (fun c1 => ?_) (fun c1 => ?_)
  · rw [if_pos c1] at hf
    exact pJ3_checkIndex_8e157_b9_ok Z hK   hf
  · rw [if_neg c1] at hf
    refine J_iload_n Z.1 0 dJ3_checkIndex_8e157_4 rfl rfl ?_
    refine J_iload_n Z.1 1 dJ3_checkIndex_8e157_5 rfl rfl ?_
    refine J_icmp_lt Z.1 16 dJ3_checkIndex_8e157_6 (by decide) (fun c2 => ?_) (fun c2 => ?_)
    · rw [if_pos c2] at hf
      refine J_iload_n Z.1 0 dJ3_checkIndex_8e157_16 rfl rfl ?_
      cases hf
      exact J_iret Z.1 Z.2.2.2.2.2 dJ3_checkIndex_8e157_17
    · rw [if_neg c2] at hf
      exact pJ3_checkIndex_8e157_b9_ok Z hK   hf
theorem dJ0_coder_7d493_0 : decode cJ0_coder_7d493 0 = .ok (.getstatic 38, 3) := by decide +kernel
theorem dJ0_coder_7d493_3 : decode cJ0_coder_7d493 3 = .ok (.ifCond .eq 10, 3) := by decide +kernel
theorem dJ0_coder_7d493_6 : decode cJ0_coder_7d493 6 = .ok (.aload_n 0, 1) := by decide +kernel
theorem dJ0_coder_7d493_7 : decode cJ0_coder_7d493 7 = .ok (.getfield 15, 3) := by decide +kernel
theorem dJ0_coder_7d493_10 : decode cJ0_coder_7d493 10 = .ok (.goto 4, 3) := by decide +kernel
theorem dJ0_coder_7d493_13 : decode cJ0_coder_7d493 13 = .ok (.iconst 1, 1) := by decide +kernel
theorem dJ0_coder_7d493_14 : decode cJ0_coder_7d493 14 = .ok (.ireturn, 1) := by decide +kernel
def pJ0_coder_7d493 (E : EC) (g : MT) (h : CT) (this : Nat) : Option Int32 := kI (E.1 4) fun x1 => (if x1 = 0 then nr .byte 1 (some 1) else tg E.2.2 this 61 (nr .byte (hI E.2.1 this 1) (some (hI E.2.1 this 1))))
set_option maxRecDepth 10000 in
set_option maxHeartbeats 4000000 in
theorem pJ0_coder_7d493_ok (G : Gx) (dk : Nat) (hK : 0 ≤ dk) {g : MT} {E : EC} (hE : G.2.2.2 = E) {h : CT} {this : Nat} {r0 : Int32} (hf : pJ0_coder_7d493 E g h this = some r0) : Ctr G dk yJ0_coder_7d493 cJ0_coder_7d493 1 (some .byte) [va_rf (some this)] g h (some (.int r0)) g h := by
  refine Ctr.ofZ (lv := [(0, va_rf (some this))]) (by decide +kernel) (by simp [cat_i, cat_l, cat_d, cat_rf]) rfl fun X Z => ?_
  unfold pJ0_coder_7d493 at hf
  replace hf := kI_i hf
  obtain ⟨x1, ex1, hf⟩ := hf
  refine J_gets (i := 4) (v := .int x1) Z.1 dJ0_coder_7d493_0 rfl q_672 (zEv Z hE ex1) rfl ?_
  refine J_if_eq Z.1 13 dJ0_coder_7d493_3 (by decide) (fun c2 => ?_) (fun c2 => ?_)
  · rw [if_pos c2] at hf
    refine J_iconst Z.1 (v := 1) (by decide) dJ0_coder_7d493_13 ?_
    replace hf := nr_i hf
    obtain ⟨z3, hf⟩ := hf
    cases hf
    exact J_nret Z.1 Z.2.2.2.2.2 z3 dJ0_coder_7d493_14
  · rw [if_neg c2] at hf
    refine J_aload_n Z.1 0 dJ0_coder_7d493_6 rfl rfl ?_
    replace hf := tg_i hf
    obtain ⟨t4, hf⟩ := hf
    rw [← zE Z hE] at t4
    refine J_getT (k := 1) (v := .int (hI E.2.1 this 1)) Z.1 dJ0_coder_7d493_7 rfl t4 q_2177 (by rw [zE Z hE]; rfl) rfl ?_
    refine J_goto Z.1 14 dJ0_coder_7d493_10 (by decide) ?_
    replace hf := nr_i hf
    obtain ⟨z5, hf⟩ := hf
    cases hf
    exact J_nret Z.1 Z.2.2.2.2.2 z5 dJ0_coder_7d493_14
theorem dJ0_isLatin1_aae02_0 : decode cJ0_isLatin1_aae02 0 = .ok (.getstatic 38, 3) := by decide +kernel
theorem dJ0_isLatin1_aae02_3 : decode cJ0_isLatin1_aae02 3 = .ok (.ifCond .eq 14, 3) := by decide +kernel
theorem dJ0_isLatin1_aae02_6 : decode cJ0_isLatin1_aae02 6 = .ok (.aload_n 0, 1) := by decide +kernel
theorem dJ0_isLatin1_aae02_7 : decode cJ0_isLatin1_aae02 7 = .ok (.getfield 15, 3) := by decide +kernel
theorem dJ0_isLatin1_aae02_10 : decode cJ0_isLatin1_aae02 10 = .ok (.ifCond .ne 7, 3) := by decide +kernel
theorem dJ0_isLatin1_aae02_13 : decode cJ0_isLatin1_aae02 13 = .ok (.iconst 1, 1) := by decide +kernel
theorem dJ0_isLatin1_aae02_14 : decode cJ0_isLatin1_aae02 14 = .ok (.goto 4, 3) := by decide +kernel
theorem dJ0_isLatin1_aae02_17 : decode cJ0_isLatin1_aae02 17 = .ok (.iconst 0, 1) := by decide +kernel
theorem dJ0_isLatin1_aae02_18 : decode cJ0_isLatin1_aae02 18 = .ok (.ireturn, 1) := by decide +kernel
def pJ0_isLatin1_aae02 (E : EC) (g : MT) (h : CT) (this : Nat) : Option Int32 := kI (E.1 4) fun x1 => (if x1 = 0 then some 0 else tg E.2.2 this 61 (if (hI E.2.1 this 1) = 0 then some 1 else some 0))
set_option maxRecDepth 10000 in
set_option maxHeartbeats 4000000 in
theorem pJ0_isLatin1_aae02_ok (G : Gx) (dk : Nat) (hK : 0 ≤ dk) {g : MT} {E : EC} (hE : G.2.2.2 = E) {h : CT} {this : Nat} {r0 : Int32} (hf : pJ0_isLatin1_aae02 E g h this = some r0) : Ctr G dk yJ0_isLatin1_aae02 cJ0_isLatin1_aae02 1 (some .boolean) [va_rf (some this)] g h (some (.int r0)) g h := by
  refine Ctr.ofZ (lv := [(0, va_rf (some this))]) (by decide +kernel) (by simp [cat_i, cat_l, cat_d, cat_rf]) rfl fun X Z => ?_
  unfold pJ0_isLatin1_aae02 at hf
  replace hf := kI_i hf
  obtain ⟨x1, ex1, hf⟩ := hf
  refine J_gets (i := 4) (v := .int x1) Z.1 dJ0_isLatin1_aae02_0 rfl q_672 (zEv Z hE ex1) rfl ?_
  refine J_if_eq Z.1 17 dJ0_isLatin1_aae02_3 (by decide) (fun c2 => ?_) (fun c2 => ?_)
  · rw [if_pos c2] at hf
    refine J_iconst Z.1 (v := 0) (by decide) dJ0_isLatin1_aae02_17 ?_
    cases hf
    exact J_zret Z.1 Z.2.2.2.2.2 (z_n (Or.inl rfl)) dJ0_isLatin1_aae02_18
  · rw [if_neg c2] at hf
    refine J_aload_n Z.1 0 dJ0_isLatin1_aae02_6 rfl rfl ?_
    replace hf := tg_i hf
    obtain ⟨t3, hf⟩ := hf
    rw [← zE Z hE] at t3
    refine J_getT (k := 1) (v := .int (hI E.2.1 this 1)) Z.1 dJ0_isLatin1_aae02_7 rfl t3 q_2177 (by rw [zE Z hE]; rfl) rfl ?_
    refine J_if_ne Z.1 17 dJ0_isLatin1_aae02_10 (by decide) (fun c4 => ?_) (fun c4 => ?_)
    · rw [if_neg c4] at hf
      refine J_iconst Z.1 (v := 0) (by decide) dJ0_isLatin1_aae02_17 ?_
      cases hf
      exact J_zret Z.1 Z.2.2.2.2.2 (z_n (Or.inl rfl)) dJ0_isLatin1_aae02_18
    · rw [if_pos c4] at hf
      refine J_iconst Z.1 (v := 1) (by decide) dJ0_isLatin1_aae02_13 ?_
      refine J_goto Z.1 18 dJ0_isLatin1_aae02_14 (by decide) ?_
      cases hf
      exact J_zret Z.1 Z.2.2.2.2.2 (z_n (Or.inr rfl)) dJ0_isLatin1_aae02_18
theorem dJ0_checkIndex_df160_0 : decode cJ0_checkIndex_df160 0 = .ok (.iload_n 0, 1) := by decide +kernel
theorem dJ0_checkIndex_df160_1 : decode cJ0_checkIndex_df160 1 = .ok (.iload_n 1, 1) := by decide +kernel
theorem dJ0_checkIndex_df160_2 : decode cJ0_checkIndex_df160 2 = .ok (.getstatic 1053, 3) := by decide +kernel
theorem dJ0_checkIndex_df160_5 : decode cJ0_checkIndex_df160 5 = .ok (.invokestatic 1059, 3) := by decide +kernel
theorem dJ0_checkIndex_df160_8 : decode cJ0_checkIndex_df160 8 = .ok (.pop, 1) := by decide +kernel
theorem dJ0_checkIndex_df160_9 : decode cJ0_checkIndex_df160 9 = .ok (.return_, 1) := by decide +kernel
def pJ0_checkIndex_df160 (E : EC) (g : MT) (h : CT) (p0 : Int32) (p1 : Int32) : Option CT := kQ (E.1 33) fun r1 => (bd (pJ3_checkIndex_8e157 g h p0 p1 r1) fun x2 => (some h))
set_option maxRecDepth 10000 in
set_option maxHeartbeats 4000000 in
theorem pJ0_checkIndex_df160_ok (G : Gx) (dk : Nat) (hK : 1 ≤ dk) {g : MT} {E : EC} (hE : G.2.2.2 = E) {h h0 : CT} {p0 : Int32} {p1 : Int32} (hf : pJ0_checkIndex_df160 E g h p0 p1 = some h0) : Ctr G dk yJ0_checkIndex_df160 cJ0_checkIndex_df160 2 none [.int p0, .int p1] g h none g h0 := by
  refine Ctr.ofZ (lv := [(0, .int p0), (1, .int p1)]) (by decide +kernel) (by simp [cat_i, cat_l, cat_d, cat_rf]) rfl fun X Z => ?_
  unfold pJ0_checkIndex_df160 at hf
  refine J_iload_n Z.1 0 dJ0_checkIndex_df160_0 rfl rfl ?_
  refine J_iload_n Z.1 1 dJ0_checkIndex_df160_1 rfl rfl ?_
  replace hf := kQ_i hf
  obtain ⟨r1, er1, hf⟩ := hf
  refine J_gets (i := 33) (v := va_rf r1) Z.1 dJ0_checkIndex_df160_2 rfl q_692 (zEv Z hE er1) (cn_rf _) ?_
  replace hf := bd_i hf
  obtain ⟨x2, q3, hf⟩ := hf
  refine J_callS (as := [.int p0, .int p1, va_rf r1]) (rest := []) (sy := [.int x2]) Z.1 dJ0_checkIndex_df160_5 cw_J0_1059 (pJ3_checkIndex_8e157_ok G (dk - 1) (by omega) q3) (zG Z) rfl (by decide) (zF Z (by omega)) (zO Z (by omega) (by decide)) (zM _) Z.2.1 Z.2.1 rfl rfl ?_
  refine J_pop Z.1 dJ0_checkIndex_df160_8 (by simp [cat_i, cat_l, cat_d, cat_rf]) ?_
  cases hf
  exact J_vret Z.1 Z.2.2.2.2.2 dJ0_checkIndex_df160_9
theorem dJ1_charAt_3b067_0 : decode cJ1_charAt_3b067 0 = .ok (.iload_n 1, 1) := by decide +kernel
theorem dJ1_charAt_3b067_1 : decode cJ1_charAt_3b067 1 = .ok (.aload_n 0, 1) := by decide +kernel
theorem dJ1_charAt_3b067_2 : decode cJ1_charAt_3b067 2 = .ok (.arraylength, 1) := by decide +kernel
theorem dJ1_charAt_3b067_3 : decode cJ1_charAt_3b067 3 = .ok (.invokestatic 9, 3) := by decide +kernel
theorem dJ1_charAt_3b067_6 : decode cJ1_charAt_3b067 6 = .ok (.aload_n 0, 1) := by decide +kernel
theorem dJ1_charAt_3b067_7 : decode cJ1_charAt_3b067 7 = .ok (.iload_n 1, 1) := by decide +kernel
theorem dJ1_charAt_3b067_8 : decode cJ1_charAt_3b067 8 = .ok (.baload, 1) := by decide +kernel
theorem dJ1_charAt_3b067_9 : decode cJ1_charAt_3b067 9 = .ok (.sipush 255, 3) := by decide +kernel
theorem dJ1_charAt_3b067_12 : decode cJ1_charAt_3b067 12 = .ok (.iand, 1) := by decide +kernel
theorem dJ1_charAt_3b067_13 : decode cJ1_charAt_3b067 13 = .ok (.i2c, 1) := by decide +kernel
theorem dJ1_charAt_3b067_14 : decode cJ1_charAt_3b067 14 = .ok (.ireturn, 1) := by decide +kernel
def pJ1_charAt_3b067 (E : EC) (g : MT) (h : CT) (p0 : Nat) (p1 : Int32) : Option ((Int32) × CT) := tg E.2.2 p0 23 (bd (pJ0_checkIndex_df160 E g h p1 (Int32.ofNat (gL E.2.2 p0))) fun h2 => (ix (gL E.2.2 p0) p1 (nr .char (UInt32.toInt32 (Int32.toUInt32 ((hI E.2.1 p0 (Int32.toNatClampNeg p1)) &&& 255) % 65536)) (some ((UInt32.toInt32 (Int32.toUInt32 ((hI E.2.1 p0 (Int32.toNatClampNeg p1)) &&& 255) % 65536)), h2)))))
set_option maxRecDepth 10000 in
set_option maxHeartbeats 4000000 in
theorem pJ1_charAt_3b067_ok (G : Gx) (dk : Nat) (hK : 2 ≤ dk) {g : MT} {E : EC} (hE : G.2.2.2 = E) {h h0 : CT} {p0 : Nat} {p1 : Int32} {r0 : Int32} (hf : pJ1_charAt_3b067 E g h p0 p1 = some (r0, h0)) : Ctr G dk yJ1_charAt_3b067 cJ1_charAt_3b067 2 (some .char) [va_rf (some p0), .int p1] g h (some (.int r0)) g h0 := by
  refine Ctr.ofZ (lv := [(0, va_rf (some p0)), (1, .int p1)]) (by decide +kernel) (by simp [cat_i, cat_l, cat_d, cat_rf]) rfl fun X Z => ?_
  unfold pJ1_charAt_3b067 at hf
  refine J_iload_n Z.1 1 dJ1_charAt_3b067_0 rfl rfl ?_
  refine J_aload_n Z.1 0 dJ1_charAt_3b067_1 rfl rfl ?_
  replace hf := tg_i hf
  obtain ⟨t1, hf⟩ := hf
  rw [← zE Z hE] at t1
  refine J_alenK (t := 3) Z.1 dJ1_charAt_3b067_2 t1 rfl ?_
  rw [zE Z hE]
  replace hf := bd_i hf
  obtain ⟨h2, q3, hf⟩ := hf
  refine J_callS (as := [.int p1, .int (Int32.ofNat (gL E.2.2 p0))]) (rest := []) (sy := []) Z.1 dJ1_charAt_3b067_3 cw_J1_9 (pJ0_checkIndex_df160_ok G (dk - 1) (by omega) hE q3) (zG Z) rfl (by decide) (zF Z (by omega)) (zO Z (by omega) (by decide)) (zM _) Z.2.1 Z.2.1 rfl rfl ?_
  refine J_aload_n Z.1 0 dJ1_charAt_3b067_6 rfl rfl ?_
  refine J_iload_n Z.1 1 dJ1_charAt_3b067_7 rfl rfl ?_
  replace hf := ix_i hf
  obtain ⟨i4, hf⟩ := hf
  refine J_baldK Z.1 dJ1_charAt_3b067_8 t1 (by rw [zE Z hE]; exact i4) ?_
  rw [zE Z hE]
  refine J_sipush Z.1 (v := 255) (by decide) dJ1_charAt_3b067_9 ?_
  refine J_iand Z.1 dJ1_charAt_3b067_12 ?_
  refine J_i2c Z.1 dJ1_charAt_3b067_13 ?_
  replace hf := nr_i hf
  obtain ⟨z5, hf⟩ := hf
  cases hf
  exact J_nret Z.1 Z.2.2.2.2.2 z5 dJ1_charAt_3b067_14
theorem dJ0_length_8abf5_0 : decode cJ0_length_8abf5 0 = .ok (.aload_n 0, 1) := by decide +kernel
theorem dJ0_length_8abf5_1 : decode cJ0_length_8abf5 1 = .ok (.getfield 9, 3) := by decide +kernel
theorem dJ0_length_8abf5_4 : decode cJ0_length_8abf5 4 = .ok (.arraylength, 1) := by decide +kernel
theorem dJ0_length_8abf5_5 : decode cJ0_length_8abf5 5 = .ok (.aload_n 0, 1) := by decide +kernel
theorem dJ0_length_8abf5_6 : decode cJ0_length_8abf5 6 = .ok (.invokevirtual 335, 3) := by decide +kernel
theorem dJ0_length_8abf5_9 : decode cJ0_length_8abf5 9 = .ok (.ishr, 1) := by decide +kernel
theorem dJ0_length_8abf5_10 : decode cJ0_length_8abf5 10 = .ok (.ireturn, 1) := by decide +kernel
def pJ0_length_8abf5 (E : EC) (g : MT) (h : CT) (this : Nat) : Option Int32 := tg E.2.2 this 61 (lt (hR E.2.1 this 0) fun r2 => (nn r2 fun a2 => (tg E.2.2 a2 23 (bd (pJ0_coder_7d493 E g h this) fun x4 => (some ((Int32.ofNat (gL E.2.2 a2)) >>> (x4 &&& 31)))))))
set_option maxRecDepth 10000 in
set_option maxHeartbeats 4000000 in
theorem pJ0_length_8abf5_ok (G : Gx) (dk : Nat) (hK : 1 ≤ dk) {g : MT} {E : EC} (hE : G.2.2.2 = E) {h : CT} {this : Nat} {r0 : Int32} (hf : pJ0_length_8abf5 E g h this = some r0) : Ctr G dk yJ0_length_8abf5 cJ0_length_8abf5 1 (some .int) [va_rf (some this)] g h (some (.int r0)) g h := by
  refine Ctr.ofZ (lv := [(0, va_rf (some this))]) (by decide +kernel) (by simp [cat_i, cat_l, cat_d, cat_rf]) rfl fun X Z => ?_
  unfold pJ0_length_8abf5 at hf
  refine J_aload_n Z.1 0 dJ0_length_8abf5_0 rfl rfl ?_
  replace hf := tg_i hf
  obtain ⟨t1, hf⟩ := hf
  rw [← zE Z hE] at t1
  refine J_getT (k := 0) (v := va_rf (hR E.2.1 this 0)) Z.1 dJ0_length_8abf5_1 rfl t1 q_2176 (by rw [zE Z hE]; rfl) (cn_rf _) ?_
  refine J_tr (fun r2 er2 => ?_)
  replace hf := lt_i hf r2 er2
  replace hf := nn_i hf
  obtain ⟨a2, rfl, hf⟩ := hf
  replace hf := tg_i hf
  obtain ⟨t3, hf⟩ := hf
  rw [← zE Z hE] at t3
  refine J_alenK (t := 3) Z.1 dJ0_length_8abf5_4 t3 rfl ?_
  rw [zE Z hE]
  refine J_aload_n Z.1 0 dJ0_length_8abf5_5 rfl rfl ?_
  replace hf := bd_i hf
  obtain ⟨x4, q5, hf⟩ := hf
  refine J_callK (as := []) (rest := [.int (Int32.ofNat (gL E.2.2 a2))]) (sy := [.int x4, .int (Int32.ofNat (gL E.2.2 a2))]) Z.1 dJ0_length_8abf5_6 cw_J0_335 (pJ0_coder_7d493_ok G (dk - 1) (by omega) hE q5) (kT Z.1 t1) (zG Z) rfl (by simp [cat_i, cat_l, cat_d, cat_rf]) (zF Z (by omega)) (zO Z (by omega) (by decide)) (zM _) Z.2.1 Z.2.1 rfl rfl ?_
  refine J_ishr Z.1 dJ0_length_8abf5_9 ?_
  cases hf
  exact J_iret Z.1 Z.2.2.2.2.2 dJ0_length_8abf5_10
theorem dJ0_charAt_5068e_0 : decode cJ0_charAt_5068e 0 = .ok (.aload_n 0, 1) := by decide +kernel
theorem dJ0_charAt_5068e_1 : decode cJ0_charAt_5068e 1 = .ok (.invokevirtual 492, 3) := by decide +kernel
theorem dJ0_charAt_5068e_4 : decode cJ0_charAt_5068e 4 = .ok (.ifCond .eq 12, 3) := by decide +kernel
theorem dJ0_charAt_5068e_7 : decode cJ0_charAt_5068e 7 = .ok (.aload_n 0, 1) := by decide +kernel
theorem dJ0_charAt_5068e_8 : decode cJ0_charAt_5068e 8 = .ok (.getfield 9, 3) := by decide +kernel
theorem dJ0_charAt_5068e_11 : decode cJ0_charAt_5068e 11 = .ok (.iload_n 1, 1) := by decide +kernel
theorem dJ0_charAt_5068e_12 : decode cJ0_charAt_5068e 12 = .ok (.invokestatic 495, 3) := by decide +kernel
theorem dJ0_charAt_5068e_15 : decode cJ0_charAt_5068e 15 = .ok (.ireturn, 1) := by decide +kernel
theorem dJ0_charAt_5068e_16 : decode cJ0_charAt_5068e 16 = .ok (.aload_n 0, 1) := by decide +kernel
theorem dJ0_charAt_5068e_17 : decode cJ0_charAt_5068e 17 = .ok (.getfield 9, 3) := by decide +kernel
theorem dJ0_charAt_5068e_20 : decode cJ0_charAt_5068e 20 = .ok (.iload_n 1, 1) := by decide +kernel
theorem dJ0_charAt_5068e_21 : decode cJ0_charAt_5068e 21 = .ok (.invokestatic 498, 3) := by decide +kernel
theorem dJ0_charAt_5068e_24 : decode cJ0_charAt_5068e 24 = .ok (.ireturn, 1) := by decide +kernel
def pJ0_charAt_5068e (E : EC) (g : MT) (h : CT) (this : Nat) (p1 : Int32) : Option ((Int32) × CT) := tg E.2.2 this 61 (bd (pJ0_isLatin1_aae02 E g h this) fun x2 => (if x2 = 0 then lt (hR E.2.1 this 0) fun r5 => (none) else lt (hR E.2.1 this 0) fun r6 => (nn r6 fun a6 => (bd2 (pJ1_charAt_3b067 E g h a6 p1) fun x9 h7 => (nr .char x9 (some (x9, h7)))))))
set_option maxRecDepth 10000 in
set_option maxHeartbeats 4000000 in
theorem pJ0_charAt_5068e_ok (G : Gx) (dk : Nat) (hK : 3 ≤ dk) {g : MT} {E : EC} (hE : G.2.2.2 = E) {h h0 : CT} {this : Nat} {p1 : Int32} {r0 : Int32} (hf : pJ0_charAt_5068e E g h this p1 = some (r0, h0)) : Ctr G dk yJ0_charAt_5068e cJ0_charAt_5068e 2 (some .char) [va_rf (some this), .int p1] g h (some (.int r0)) g h0 := by
  refine Ctr.ofZ (lv := [(0, va_rf (some this)), (1, .int p1)]) (by decide +kernel) (by simp [cat_i, cat_l, cat_d, cat_rf]) rfl fun X Z => ?_
  unfold pJ0_charAt_5068e at hf
  refine J_aload_n Z.1 0 dJ0_charAt_5068e_0 rfl rfl ?_
  replace hf := tg_i hf
  obtain ⟨t1, hf⟩ := hf
  rw [← zE Z hE] at t1
  replace hf := bd_i hf
  obtain ⟨x2, q3, hf⟩ := hf
  refine J_callK (as := []) (rest := []) (sy := [.int x2]) Z.1 dJ0_charAt_5068e_1 cw_J0_492 (pJ0_isLatin1_aae02_ok G (dk - 1) (by omega) hE q3) (kT Z.1 t1) (zG Z) rfl (by decide) (zF Z (by omega)) (zO Z (by omega) (by decide)) (zM _) Z.2.1 Z.2.1 rfl rfl ?_
  refine J_if_eq Z.1 16 dJ0_charAt_5068e_4 (by decide) (fun c4 => ?_) (fun c4 => ?_)
  · rw [if_pos c4] at hf
    refine J_aload_n Z.1 0 dJ0_charAt_5068e_16 rfl rfl ?_
    refine J_getT (k := 0) (v := va_rf (hR E.2.1 this 0)) Z.1 dJ0_charAt_5068e_17 rfl t1 q_2176 (by rw [zE Z hE]; rfl) (cn_rf _) ?_
    refine J_tr (fun r5 er5 => ?_)
    replace hf := lt_i hf r5 er5
    refine J_iload_n Z.1 1 dJ0_charAt_5068e_20 rfl rfl ?_
    cases hf
  · rw [if_neg c4] at hf
    refine J_aload_n Z.1 0 dJ0_charAt_5068e_7 rfl rfl ?_
    refine J_getT (k := 0) (v := va_rf (hR E.2.1 this 0)) Z.1 dJ0_charAt_5068e_8 rfl t1 q_2176 (by rw [zE Z hE]; rfl) (cn_rf _) ?_
    refine J_tr (fun r6 er6 => ?_)
    replace hf := lt_i hf r6 er6
    refine J_iload_n Z.1 1 dJ0_charAt_5068e_11 rfl rfl ?_
    replace hf := nn_i hf
    obtain ⟨a6, rfl, hf⟩ := hf
    replace hf := bd2_i hf
    obtain ⟨x9, h7, q8, hf⟩ := hf
    refine J_callS (as := [va_rf (some a6), .int p1]) (rest := []) (sy := [.int x9]) Z.1 dJ0_charAt_5068e_12 cw_J0_495 (pJ1_charAt_3b067_ok G (dk - 1) (by omega) hE q8) (zG Z) rfl (by decide) (zF Z (by omega)) (zO Z (by omega) (by decide)) (zM _) Z.2.1 Z.2.1 rfl rfl ?_
    replace hf := nr_i hf
    obtain ⟨z10, hf⟩ := hf
    cases hf
    exact J_nret Z.1 Z.2.2.2.2.2 z10 dJ0_charAt_5068e_15
