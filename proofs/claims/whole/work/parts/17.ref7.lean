/-! written by wip/whole/gen.py out of the printed bytecode -/
theorem dX13_settles_0 : decode cX13_settles 0 = .ok (.aload_n 0, 1) := by decide +kernel
theorem dX13_settles_1 : decode cX13_settles 1 = .ok (.iload_n 1, 1) := by decide +kernel
theorem dX13_settles_2 : decode cX13_settles 2 = .ok (.iconst 0, 1) := by decide +kernel
theorem dX13_settles_3 : decode cX13_settles 3 = .ok (.invokevirtual 381, 3) := by decide +kernel
theorem dX13_settles_6 : decode cX13_settles 6 = .ok (.istore_n 3, 1) := by decide +kernel
theorem dX13_settles_7 : decode cX13_settles 7 = .ok (.aload_n 0, 1) := by decide +kernel
theorem dX13_settles_8 : decode cX13_settles 8 = .ok (.getfield 44, 3) := by decide +kernel
theorem dX13_settles_11 : decode cX13_settles 11 = .ok (.iload_n 3, 1) := by decide +kernel
theorem dX13_settles_12 : decode cX13_settles 12 = .ok (.invokestatic 395, 3) := by decide +kernel
theorem dX13_settles_15 : decode cX13_settles 15 = .ok (.iload_n 2, 1) := by decide +kernel
theorem dX13_settles_16 : decode cX13_settles 16 = .ok (.iconst 1, 1) := by decide +kernel
theorem dX13_settles_17 : decode cX13_settles 17 = .ok (.iadd, 1) := by decide +kernel
theorem dX13_settles_18 : decode cX13_settles 18 = .ok (.iastore, 1) := by decide +kernel
theorem dX13_settles_19 : decode cX13_settles 19 = .ok (.iload_n 3, 1) := by decide +kernel
theorem dX13_settles_20 : decode cX13_settles 20 = .ok (.invokestatic 354, 3) := by decide +kernel
theorem dX13_settles_23 : decode cX13_settles 23 = .ok (.ifCond .eq 18, 3) := by decide +kernel
theorem dX13_settles_26 : decode cX13_settles 26 = .ok (.aload_n 0, 1) := by decide +kernel
theorem dX13_settles_27 : decode cX13_settles 27 = .ok (.iload_n 2, 1) := by decide +kernel
theorem dX13_settles_28 : decode cX13_settles 28 = .ok (.iconst 3, 1) := by decide +kernel
theorem dX13_settles_29 : decode cX13_settles 29 = .ok (.iadd, 1) := by decide +kernel
theorem dX13_settles_30 : decode cX13_settles 30 = .ok (.putfield 404, 3) := by decide +kernel
theorem dX13_settles_33 : decode cX13_settles 33 = .ok (.aload_n 0, 1) := by decide +kernel
theorem dX13_settles_34 : decode cX13_settles 34 = .ok (.aload_n 0, 1) := by decide +kernel
theorem dX13_settles_35 : decode cX13_settles 35 = .ok (.getfield 404, 3) := by decide +kernel
theorem dX13_settles_38 : decode cX13_settles 38 = .ok (.invokevirtual 478, 3) := by decide +kernel
theorem dX13_settles_41 : decode cX13_settles 41 = .ok (.iload_n 3, 1) := by decide +kernel
theorem dX13_settles_42 : decode cX13_settles 42 = .ok (.bipush 21, 2) := by decide +kernel
theorem dX13_settles_44 : decode cX13_settles 44 = .ok (.if_icmp .eq 14, 3) := by decide +kernel
theorem dX13_settles_47 : decode cX13_settles 47 = .ok (.aload_n 0, 1) := by decide +kernel
theorem dX13_settles_48 : decode cX13_settles 48 = .ok (.iload_n 1, 1) := by decide +kernel
theorem dX13_settles_49 : decode cX13_settles 49 = .ok (.bipush 6, 2) := by decide +kernel
theorem dX13_settles_51 : decode cX13_settles 51 = .ok (.invokevirtual 381, 3) := by decide +kernel
theorem dX13_settles_54 : decode cX13_settles 54 = .ok (.iconst 1, 1) := by decide +kernel
theorem dX13_settles_55 : decode cX13_settles 55 = .ok (.if_icmp .ne 15, 3) := by decide +kernel
theorem dX13_settles_58 : decode cX13_settles 58 = .ok (.aload_n 0, 1) := by decide +kernel
theorem dX13_settles_59 : decode cX13_settles 59 = .ok (.aload_n 0, 1) := by decide +kernel
theorem dX13_settles_60 : decode cX13_settles 60 = .ok (.getfield 407, 3) := by decide +kernel
theorem dX13_settles_63 : decode cX13_settles 63 = .ok (.iload_n 2, 1) := by decide +kernel
theorem dX13_settles_64 : decode cX13_settles 64 = .ok (.invokestatic 178, 3) := by decide +kernel
theorem dX13_settles_67 : decode cX13_settles 67 = .ok (.putfield 407, 3) := by decide +kernel
theorem dX13_settles_70 : decode cX13_settles 70 = .ok (.iconst 0, 1) := by decide +kernel
theorem dX13_settles_71 : decode cX13_settles 71 = .ok (.istore 4, 2) := by decide +kernel
theorem dX13_settles_73 : decode cX13_settles 73 = .ok (.iload 4, 2) := by decide +kernel
theorem dX13_settles_75 : decode cX13_settles 75 = .ok (.aload_n 0, 1) := by decide +kernel
theorem dX13_settles_76 : decode cX13_settles 76 = .ok (.getfield 468, 3) := by decide +kernel
theorem dX13_settles_79 : decode cX13_settles 79 = .ok (.if_icmp .ge 36, 3) := by decide +kernel
theorem dX13_settles_82 : decode cX13_settles 82 = .ok (.aload_n 0, 1) := by decide +kernel
theorem dX13_settles_83 : decode cX13_settles 83 = .ok (.getfield 38, 3) := by decide +kernel
theorem dX13_settles_86 : decode cX13_settles 86 = .ok (.bipush 16, 2) := by decide +kernel
theorem dX13_settles_88 : decode cX13_settles 88 = .ok (.aload_n 0, 1) := by decide +kernel
theorem dX13_settles_89 : decode cX13_settles 89 = .ok (.iload_n 1, 1) := by decide +kernel
theorem dX13_settles_90 : decode cX13_settles 90 = .ok (.iconst 1, 1) := by decide +kernel
theorem dX13_settles_91 : decode cX13_settles 91 = .ok (.invokevirtual 381, 3) := by decide +kernel
theorem dX13_settles_94 : decode cX13_settles 94 = .ok (.imul, 1) := by decide +kernel
theorem dX13_settles_95 : decode cX13_settles 95 = .ok (.iload 4, 2) := by decide +kernel
theorem dX13_settles_97 : decode cX13_settles 97 = .ok (.iadd, 1) := by decide +kernel
theorem dX13_settles_98 : decode cX13_settles 98 = .ok (.iload_n 2, 1) := by decide +kernel
theorem dX13_settles_99 : decode cX13_settles 99 = .ok (.iconst 3, 1) := by decide +kernel
theorem dX13_settles_100 : decode cX13_settles 100 = .ok (.iadd, 1) := by decide +kernel
theorem dX13_settles_101 : decode cX13_settles 101 = .ok (.iastore, 1) := by decide +kernel
theorem dX13_settles_102 : decode cX13_settles 102 = .ok (.aload_n 0, 1) := by decide +kernel
theorem dX13_settles_103 : decode cX13_settles 103 = .ok (.iload_n 2, 1) := by decide +kernel
theorem dX13_settles_104 : decode cX13_settles 104 = .ok (.iconst 3, 1) := by decide +kernel
theorem dX13_settles_105 : decode cX13_settles 105 = .ok (.iadd, 1) := by decide +kernel
theorem dX13_settles_106 : decode cX13_settles 106 = .ok (.invokevirtual 478, 3) := by decide +kernel
theorem dX13_settles_109 : decode cX13_settles 109 = .ok (.iinc 4 1, 3) := by decide +kernel
theorem dX13_settles_112 : decode cX13_settles 112 = .ok (.goto (-39), 3) := by decide +kernel
theorem dX13_settles_115 : decode cX13_settles 115 = .ok (.return_, 1) := by decide +kernel
def pX13_settles_b73 (g : MT) (this : Nat) (p1 : Int32) (p2 : Int32) (k73 : Int32 → CT → Option CT) (l4 : Int32) (h : CT) : Option CT := if (hI h this 42) ≤ l4 then some h else lt (hR h this 23) fun r2 => (bd (pX13_at g h this p1 1) fun x3 => (nn r2 fun a2 => (tg g a2 20 (ix (gL g a2) ((16 * x3) + l4) (lt (sI h a2 (Int32.toNatClampNeg ((16 * x3) + l4)) (p2 + 3)) fun h7 => (bd (pX13_lasts g h7 this (p2 + 3)) fun h8 => (lt (l4 + 1) fun x10 => (k73 x10 h8))))))))
set_option maxRecDepth 10000 in
set_option maxHeartbeats 4000000 in
theorem pX13_settles_b73_ok {X : Cx} {G : Gx} {dk : Nat} {g : MT} {h0 : CT} {this : Nat} {p1 : Int32} {p2 : Int32} {k73 : Int32 → CT → Option CT} (Z : Zx X G cX13_settles RX13 5 dk none none g h0) (hK : 3 ≤ dk) (t0 : gT g this = 12) (hk73 : ∀ (l4 : Int32) (h : CT), k73 l4 h = some h0 → J X g h 73 [(0, va_rf (some this)), (1, .int p1), (2, .int p2), (4, .int l4)] []) (l4 : Int32) (h : CT) (hf : pX13_settles_b73 g this p1 p2 k73 l4 h = some h0) : J X g h 73 [(0, va_rf (some this)), (1, .int p1), (2, .int p2), (4, .int l4)] [] := by
  unfold pX13_settles_b73 at hf
  refine J_iload Z.1 3 dX13_settles_73 rfl ?_
  refine J_aload_n Z.1 0 dX13_settles_75 rfl rfl ?_
  refine J_get (v := .int (hI h this 42)) Z.1 dX13_settles_76 fl_X13_468 t0 rfl ?_
  refine J_icmp_ge Z.1 115 dX13_settles_79 (by decide) (fun c1 => ?_) (fun c1 => ?_)
  · rw [if_pos c1] at hf
    cases hf
    exact J_vret Z.1 Z.2.2.2.2.2 dX13_settles_115
  · rw [if_neg c1] at hf
    refine J_aload_n Z.1 0 dX13_settles_82 rfl rfl ?_
    refine J_get (v := va_rf (hR h this 23)) Z.1 dX13_settles_83 fl_X13_38 t0 rfl ?_
    refine J_tr (fun r2 er2 => ?_)
    replace hf := lt_i hf r2 er2
    refine J_bipush Z.1 (v := 16) (by decide) dX13_settles_86 ?_
    refine J_aload_n Z.1 0 dX13_settles_88 rfl rfl ?_
    refine J_iload_n Z.1 1 dX13_settles_89 rfl rfl ?_
    refine J_iconst Z.1 (v := 1) (by decide) dX13_settles_90 ?_
    obtain ⟨x3, q4, hf⟩ := bd_i hf
    refine J_callV (ci := 11) (as := [.int p1, .int 1]) (rest := [.int 16, va_rf r2]) (sy := [.int x3, .int 16, va_rf r2]) Z.1 dX13_settles_91 cw_X13_381 (pX13_at_ok G (dk - 1) (by omega) q4) rfl rfl t0 (zG Z) rfl (by simp [cat_i, cat_l, cat_d, cat_rf]) (zF Z (by omega)) (zO Z (by omega) (by decide)) (zM _) Z.2.1 Z.2.1 rfl rfl ?_
    refine J_imul Z.1 dX13_settles_94 ?_
    refine J_iload Z.1 3 dX13_settles_95 rfl ?_
    refine J_iadd Z.1 dX13_settles_97 ?_
    refine J_iload_n Z.1 2 dX13_settles_98 rfl rfl ?_
    refine J_iconst Z.1 (v := 3) (by decide) dX13_settles_99 ?_
    refine J_iadd Z.1 dX13_settles_100 ?_
    obtain ⟨a2, rfl, hf⟩ := nn_i hf
    obtain ⟨t5, hf⟩ := tg_i hf
    obtain ⟨i6, hf⟩ := ix_i hf
    refine J_iastore Z.1 dX13_settles_101 t5 i6 ?_
    refine J_th (fun h7 eh7 => ?_)
    replace hf := lt_i hf h7 eh7
    refine J_aload_n Z.1 0 dX13_settles_102 rfl rfl ?_
    refine J_iload_n Z.1 2 dX13_settles_103 rfl rfl ?_
    refine J_iconst Z.1 (v := 3) (by decide) dX13_settles_104 ?_
    refine J_iadd Z.1 dX13_settles_105 ?_
    obtain ⟨h8, q9, hf⟩ := bd_i hf
    refine J_callV (ci := 11) (as := [.int (p2 + 3)]) (rest := []) (sy := []) Z.1 dX13_settles_106 cw_X13_478 (pX13_lasts_ok G (dk - 1) (by omega) q9) rfl rfl t0 (zG Z) rfl (by decide) (zF Z (by omega)) (zO Z (by omega) (by decide)) (zM _) Z.2.1 Z.2.1 rfl rfl ?_
    refine J_iinc Z.1 (v := 1) (lv2 := [(4, .int (l4 + 1)), (0, va_rf (some this)), (1, .int p1), (2, .int p2)]) 3 dX13_settles_109 rfl (by decide) (zL Z (by decide)) rfl ?_
    obtain ⟨x10, ex10⟩ : ∃ z, z = (l4 + 1) := ⟨_, rfl⟩
    replace hf := lt_i hf x10 ex10
    rw [← ex10]
    refine J_goto Z.1 73 dX13_settles_112 (by decide) ?_
    refine J_lv [1, 2, 3, 0] rfl ?_
    exact hk73 _ _ hf
def pX13_settles_l73 (g : MT) (this : Nat) (p1 : Int32) (p2 : Int32) : Nat → Int32 → CT → Option CT
  | 0, _, _ => none
  | n + 1, l4, h => pX13_settles_b73 g this p1 p2 (pX13_settles_l73 g this p1 p2 n) l4 h
theorem pX13_settles_l73_ok {X : Cx} {G : Gx} {dk : Nat} {g : MT} {h0 : CT} {this : Nat} {p1 : Int32} {p2 : Int32} (Z : Zx X G cX13_settles RX13 5 dk none none g h0) (hK : 3 ≤ dk) (t0 : gT g this = 12) : ∀ (n : Nat) (l4 : Int32) (h : CT), pX13_settles_l73 g this p1 p2 n l4 h = some h0 → J X g h 73 [(0, va_rf (some this)), (1, .int p1), (2, .int p2), (4, .int l4)] [] := by
  intro n
  induction n with
  | zero => intro l4 h hf; cases hf
  | succ n ih => intro l4 h hf; exact pX13_settles_b73_ok Z hK t0 ih l4 h hf
def pX13_settles_b70 (g : MT) (this : Nat) (p1 : Int32) (p2 : Int32) (h : CT) : Option CT := pX13_settles_l73 g this p1 p2  FUEL 0 h
set_option maxRecDepth 10000 in
set_option maxHeartbeats 4000000 in
theorem pX13_settles_b70_ok {X : Cx} {G : Gx} {dk : Nat} {g : MT} {h0 : CT} {this : Nat} {p1 : Int32} {p2 : Int32} (Z : Zx X G cX13_settles RX13 5 dk none none g h0) (hK : 3 ≤ dk) (t0 : gT g this = 12) (h : CT) (hf : pX13_settles_b70 g this p1 p2 h = some h0) : J X g h 70 [(0, va_rf (some this)), (1, .int p1), (2, .int p2)] [] := by
  unfold pX13_settles_b70 at hf
  refine J_iconst Z.1 (v := 0) (by decide) dX13_settles_70 ?_
  refine J_istore Z.1 (lv2 := [(4, .int 0), (0, va_rf (some this)), (1, .int p1), (2, .int p2)]) dX13_settles_71 (zL Z (by decide)) rfl ?_
  refine J_lv [1, 2, 3, 0] rfl ?_
  exact pX13_settles_l73_ok Z hK t0  FUEL _ _ hf
def pX13_settles_b58 (g : MT) (this : Nat) (p1 : Int32) (p2 : Int32) (h : CT) : Option CT := lt (sI h this 30 (pJ9_max_7cf53 (hI h this 30) p2)) fun h1 => (pX13_settles_b70 g this p1 p2  h1)
set_option maxRecDepth 10000 in
set_option maxHeartbeats 4000000 in
theorem pX13_settles_b58_ok {X : Cx} {G : Gx} {dk : Nat} {g : MT} {h0 : CT} {this : Nat} {p1 : Int32} {p2 : Int32} (Z : Zx X G cX13_settles RX13 5 dk none none g h0) (hK : 3 ≤ dk) (t0 : gT g this = 12) (h : CT) (hf : pX13_settles_b58 g this p1 p2 h = some h0) : J X g h 58 [(0, va_rf (some this)), (1, .int p1), (2, .int p2)] [] := by
  unfold pX13_settles_b58 at hf
  refine J_aload_n Z.1 0 dX13_settles_58 rfl rfl ?_
  refine J_aload_n Z.1 0 dX13_settles_59 rfl rfl ?_
  refine J_get (v := .int (hI h this 30)) Z.1 dX13_settles_60 fl_X13_407 t0 rfl ?_
  refine J_iload_n Z.1 2 dX13_settles_63 rfl rfl ?_
  refine J_callS (as := [.int (hI h this 30), .int p2]) (rest := [va_rf (some this)]) (sy := [.int (pJ9_max_7cf53 (hI h this 30) p2), va_rf (some this)]) Z.1 dX13_settles_64 cw_X13_178 (pJ9_max_7cf53_ok G (dk - 1) (by omega) g h (hI h this 30) p2) (zG Z) rfl (by simp [cat_i, cat_l, cat_d, cat_rf]) (zF Z (by omega)) (zO Z (by omega) (by decide)) (zM _) Z.2.1 Z.2.1 rfl rfl ?_
  refine J_putI Z.1 dX13_settles_67 fl_X13_407 (fun q => by cases q) t0 rfl rfl (congrArg Value.int (hI_s _ _ _ _)) ?_
  refine J_th (fun h1 eh1 => ?_)
  replace hf := lt_i hf h1 eh1
  exact pX13_settles_b70_ok Z hK t0  _ hf
def pX13_settles_b41 (g : MT) (this : Nat) (p1 : Int32) (p2 : Int32) (l3 : Int32) (h : CT) : Option CT := if l3 = 21 then pX13_settles_b58 g this p1 p2  h else bd (pX13_at g h this p1 6) fun x2 => (if x2 = 1 then pX13_settles_b58 g this p1 p2  h else pX13_settles_b70 g this p1 p2  h)
set_option maxRecDepth 10000 in
set_option maxHeartbeats 4000000 in
theorem pX13_settles_b41_ok {X : Cx} {G : Gx} {dk : Nat} {g : MT} {h0 : CT} {this : Nat} {p1 : Int32} {p2 : Int32} (Z : Zx X G cX13_settles RX13 5 dk none none g h0) (hK : 3 ≤ dk) (t0 : gT g this = 12) (l3 : Int32) (h : CT) (hf : pX13_settles_b41 g this p1 p2 l3 h = some h0) : J X g h 41 [(0, va_rf (some this)), (1, .int p1), (2, .int p2), (3, .int l3)] [] := by
  unfold pX13_settles_b41 at hf
  refine J_iload_n Z.1 3 dX13_settles_41 rfl rfl ?_
  refine J_bipush Z.1 (v := 21) (by decide) dX13_settles_42 ?_
  refine J_icmp_eq Z.1 58 dX13_settles_44 (by decide) (fun c1 => ?_) (fun c1 => ?_)
  · rw [if_pos c1] at hf
    refine J_lv [0, 1, 2] rfl ?_
    exact pX13_settles_b58_ok Z hK t0  _ hf
  · rw [if_neg c1] at hf
    refine J_aload_n Z.1 0 dX13_settles_47 rfl rfl ?_
    refine J_iload_n Z.1 1 dX13_settles_48 rfl rfl ?_
    refine J_bipush Z.1 (v := 6) (by decide) dX13_settles_49 ?_
    obtain ⟨x2, q3, hf⟩ := bd_i hf
    refine J_callV (ci := 11) (as := [.int p1, .int 6]) (rest := []) (sy := [.int x2]) Z.1 dX13_settles_51 cw_X13_381 (pX13_at_ok G (dk - 1) (by omega) q3) rfl rfl t0 (zG Z) rfl (by decide) (zF Z (by omega)) (zO Z (by omega) (by decide)) (zM _) Z.2.1 Z.2.1 rfl rfl ?_
    refine J_iconst Z.1 (v := 1) (by decide) dX13_settles_54 ?_
    refine J_icmp_ne Z.1 70 dX13_settles_55 (by decide) (fun c4 => ?_) (fun c4 => ?_)
    · rw [if_neg c4] at hf
      refine J_lv [0, 1, 2] rfl ?_
      exact pX13_settles_b70_ok Z hK t0  _ hf
    · rw [if_pos c4] at hf
      refine J_lv [0, 1, 2] rfl ?_
      exact pX13_settles_b58_ok Z hK t0  _ hf
def pX13_settles (g : MT) (h : CT) (this : Nat) (p1 : Int32) (p2 : Int32) : Option CT := tg g this 12 (bd (pX13_at g h this p1 0) fun x1 => (lt (hR h this 25) fun r3 => (nn r3 fun a3 => (tg g a3 20 (ix (gL g a3) (pX13_unitOf x1) (lt (sI h a3 (Int32.toNatClampNeg (pX13_unitOf x1)) (p2 + 1)) fun h6 => (if (pX13_isCompared x1) = 0 then pX13_settles_b41 g this p1 p2  x1 h6 else lt (sI h6 this 29 (p2 + 3)) fun h8 => (bd (pX13_lasts g h8 this (hI h8 this 29)) fun h9 => (pX13_settles_b41 g this p1 p2  x1 h9)))))))))
set_option maxRecDepth 10000 in
set_option maxHeartbeats 4000000 in
theorem pX13_settles_ok (G : Gx) (dk : Nat) (hK : 3 ≤ dk) {g : MT} {h h0 : CT} {this : Nat} {p1 : Int32} {p2 : Int32} (hf : pX13_settles g h this p1 p2 = some h0) : Ctr G dk yX13_settles cX13_settles 5 none [va_rf (some this), .int p1, .int p2] g h none g h0 := by
  refine Ctr.ofZ (lv := [(0, va_rf (some this)), (1, .int p1), (2, .int p2)]) (by decide +kernel) (by simp [cat_i, cat_l, cat_d, cat_rf]) rfl fun X Z => ?_
  unfold pX13_settles at hf
  obtain ⟨t0, hf⟩ := tg_i hf
  refine J_aload_n Z.1 0 dX13_settles_0 rfl rfl ?_
  refine J_iload_n Z.1 1 dX13_settles_1 rfl rfl ?_
  refine J_iconst Z.1 (v := 0) (by decide) dX13_settles_2 ?_
  obtain ⟨x1, q2, hf⟩ := bd_i hf
  refine J_callV (ci := 11) (as := [.int p1, .int 0]) (rest := []) (sy := [.int x1]) Z.1 dX13_settles_3 cw_X13_381 (pX13_at_ok G (dk - 1) (by omega) q2) rfl rfl t0 (zG Z) rfl (by decide) (zF Z (by omega)) (zO Z (by omega) (by decide)) (zM _) Z.2.1 Z.2.1 rfl rfl ?_
  refine J_istore_n Z.1 (lv2 := [(3, .int x1), (0, va_rf (some this)), (1, .int p1), (2, .int p2)]) dX13_settles_6 rfl (zL Z (by decide)) rfl ?_
  refine J_aload_n Z.1 1 dX13_settles_7 rfl rfl ?_
  refine J_get (v := va_rf (hR h this 25)) Z.1 dX13_settles_8 fl_X13_44 t0 rfl ?_
  refine J_tr (fun r3 er3 => ?_)
  replace hf := lt_i hf r3 er3
  refine J_iload_n Z.1 0 dX13_settles_11 rfl rfl ?_
  refine J_callS (as := [.int x1]) (rest := [va_rf r3]) (sy := [.int (pX13_unitOf x1), va_rf r3]) Z.1 dX13_settles_12 cw_X13_395 (pX13_unitOf_ok G (dk - 1) (by omega) g h x1) (zG Z) rfl (by simp [cat_i, cat_l, cat_d, cat_rf]) (zF Z (by omega)) (zO Z (by omega) (by decide)) (zM _) Z.2.1 Z.2.1 rfl rfl ?_
  refine J_iload_n Z.1 3 dX13_settles_15 rfl rfl ?_
  refine J_iconst Z.1 (v := 1) (by decide) dX13_settles_16 ?_
  refine J_iadd Z.1 dX13_settles_17 ?_
  obtain ⟨a3, rfl, hf⟩ := nn_i hf
  obtain ⟨t4, hf⟩ := tg_i hf
  obtain ⟨i5, hf⟩ := ix_i hf
  refine J_iastore Z.1 dX13_settles_18 t4 i5 ?_
  refine J_th (fun h6 eh6 => ?_)
  replace hf := lt_i hf h6 eh6
  refine J_iload_n Z.1 0 dX13_settles_19 rfl rfl ?_
  refine J_callS (as := [.int x1]) (rest := []) (sy := [.int (pX13_isCompared x1)]) Z.1 dX13_settles_20 cw_X13_354 (pX13_isCompared_ok G (dk - 1) (by omega) g h6 x1) (zG Z) rfl (by decide) (zF Z (by omega)) (zO Z (by omega) (by decide)) (zM _) Z.2.1 Z.2.1 rfl rfl ?_
  refine J_if_eq Z.1 41 dX13_settles_23 (by decide) (fun c7 => ?_) (fun c7 => ?_)
  · rw [if_pos c7] at hf
    refine J_lv [1, 2, 3, 0] rfl ?_
    exact pX13_settles_b41_ok Z hK t0  _ _ hf
  · rw [if_neg c7] at hf
    refine J_aload_n Z.1 1 dX13_settles_26 rfl rfl ?_
    refine J_iload_n Z.1 3 dX13_settles_27 rfl rfl ?_
    refine J_iconst Z.1 (v := 3) (by decide) dX13_settles_28 ?_
    refine J_iadd Z.1 dX13_settles_29 ?_
    refine J_putI Z.1 dX13_settles_30 fl_X13_404 (fun q => by cases q) t0 rfl rfl (congrArg Value.int (hI_s _ _ _ _)) ?_
    refine J_th (fun h8 eh8 => ?_)
    replace hf := lt_i hf h8 eh8
    refine J_aload_n Z.1 1 dX13_settles_33 rfl rfl ?_
    refine J_aload_n Z.1 1 dX13_settles_34 rfl rfl ?_
    refine J_get (v := .int (hI h8 this 29)) Z.1 dX13_settles_35 fl_X13_404 t0 rfl ?_
    obtain ⟨h9, q10, hf⟩ := bd_i hf
    refine J_callV (ci := 11) (as := [.int (hI h8 this 29)]) (rest := []) (sy := []) Z.1 dX13_settles_38 cw_X13_478 (pX13_lasts_ok G (dk - 1) (by omega) q10) rfl rfl t0 (zG Z) rfl (by decide) (zF Z (by omega)) (zO Z (by omega) (by decide)) (zM _) Z.2.1 Z.2.1 rfl rfl ?_
    refine J_lv [1, 2, 3, 0] rfl ?_
    exact pX13_settles_b41_ok Z hK t0  _ _ hf
theorem dX13_bits_0 : decode cX13_bits 0 = .ok (.iconst 0, 1) := by decide +kernel
theorem dX13_bits_1 : decode cX13_bits 1 = .ok (.istore_n 1, 1) := by decide +kernel
theorem dX13_bits_2 : decode cX13_bits 2 = .ok (.iconst 0, 1) := by decide +kernel
theorem dX13_bits_3 : decode cX13_bits 3 = .ok (.istore_n 2, 1) := by decide +kernel
theorem dX13_bits_4 : decode cX13_bits 4 = .ok (.iload_n 2, 1) := by decide +kernel
theorem dX13_bits_5 : decode cX13_bits 5 = .ok (.aload_n 0, 1) := by decide +kernel
theorem dX13_bits_6 : decode cX13_bits 6 = .ok (.getfield 31, 3) := by decide +kernel
theorem dX13_bits_9 : decode cX13_bits 9 = .ok (.iconst 0, 1) := by decide +kernel
theorem dX13_bits_10 : decode cX13_bits 10 = .ok (.iaload, 1) := by decide +kernel
theorem dX13_bits_11 : decode cX13_bits 11 = .ok (.if_icmp .ge 22, 3) := by decide +kernel
theorem dX13_bits_14 : decode cX13_bits 14 = .ok (.iload_n 1, 1) := by decide +kernel
theorem dX13_bits_15 : decode cX13_bits 15 = .ok (.aload_n 0, 1) := by decide +kernel
theorem dX13_bits_16 : decode cX13_bits 16 = .ok (.getfield 31, 3) := by decide +kernel
theorem dX13_bits_19 : decode cX13_bits 19 = .ok (.iconst 3, 1) := by decide +kernel
theorem dX13_bits_20 : decode cX13_bits 20 = .ok (.iaload, 1) := by decide +kernel
theorem dX13_bits_21 : decode cX13_bits 21 = .ok (.iload_n 2, 1) := by decide +kernel
theorem dX13_bits_22 : decode cX13_bits 22 = .ok (.ishr, 1) := by decide +kernel
theorem dX13_bits_23 : decode cX13_bits 23 = .ok (.iconst 1, 1) := by decide +kernel
theorem dX13_bits_24 : decode cX13_bits 24 = .ok (.iand, 1) := by decide +kernel
theorem dX13_bits_25 : decode cX13_bits 25 = .ok (.iadd, 1) := by decide +kernel
theorem dX13_bits_26 : decode cX13_bits 26 = .ok (.istore_n 1, 1) := by decide +kernel
theorem dX13_bits_27 : decode cX13_bits 27 = .ok (.iinc 2 1, 3) := by decide +kernel
theorem dX13_bits_30 : decode cX13_bits 30 = .ok (.goto (-26), 3) := by decide +kernel
theorem dX13_bits_33 : decode cX13_bits 33 = .ok (.iload_n 1, 1) := by decide +kernel
theorem dX13_bits_34 : decode cX13_bits 34 = .ok (.ireturn, 1) := by decide +kernel
def pX13_bits_b4 (g : MT) (h : CT) (this : Nat) (k4 : Int32 → Int32 → Option Int32) (l1 : Int32) (l2 : Int32) : Option Int32 := lt (hR h this 19) fun r1 => (nn r1 fun a1 => (tg g a1 20 (ix (gL g a1) 0 (if (hI h a1 (Int32.toNatClampNeg 0)) ≤ l2 then some l1 else lt (hR h this 19) fun r5 => (nn r5 fun a5 => (tg g a5 20 (ix (gL g a5) 3 (lt (l1 + (((hI h a5 (Int32.toNatClampNeg 3)) >>> (l2 &&& 31)) &&& 1)) fun x8 => (lt (l2 + 1) fun x9 => (k4 x8 x9))))))))))
set_option maxRecDepth 10000 in
set_option maxHeartbeats 4000000 in
theorem pX13_bits_b4_ok {X : Cx} {G : Gx} {dk : Nat} {g : MT} {r0 : Int32} {h : CT} {this : Nat} {k4 : Int32 → Int32 → Option Int32} (Z : Zx X G cX13_bits RX13 3 dk (some .int) (some (.int r0)) g h) (hK : 0 ≤ dk) (t0 : gT g this = 12) (hk4 : ∀ (l1 : Int32) (l2 : Int32), k4 l1 l2 = some r0 → J X g h 4 [(0, va_rf (some this)), (1, .int l1), (2, .int l2)] []) (l1 : Int32) (l2 : Int32) (hf : pX13_bits_b4 g h this k4 l1 l2 = some r0) : J X g h 4 [(0, va_rf (some this)), (1, .int l1), (2, .int l2)] [] := by
  unfold pX13_bits_b4 at hf
  refine J_iload_n Z.1 2 dX13_bits_4 rfl rfl ?_
  refine J_aload_n Z.1 0 dX13_bits_5 rfl rfl ?_
  refine J_get (v := va_rf (hR h this 19)) Z.1 dX13_bits_6 fl_X13_31 t0 rfl ?_
  refine J_tr (fun r1 er1 => ?_)
  replace hf := lt_i hf r1 er1
  refine J_iconst Z.1 (v := 0) (by decide) dX13_bits_9 ?_
  obtain ⟨a1, rfl, hf⟩ := nn_i hf
  obtain ⟨t2, hf⟩ := tg_i hf
  obtain ⟨i3, hf⟩ := ix_i hf
  refine J_iaload Z.1 dX13_bits_10 t2 i3 ?_
  refine J_icmp_ge Z.1 33 dX13_bits_11 (by decide) (fun c4 => ?_) (fun c4 => ?_)
  · rw [if_pos c4] at hf
    refine J_iload_n Z.1 1 dX13_bits_33 rfl rfl ?_
    cases hf
    exact J_iret Z.1 Z.2.2.2.2.2 dX13_bits_34
  · rw [if_neg c4] at hf
    refine J_iload_n Z.1 1 dX13_bits_14 rfl rfl ?_
    refine J_aload_n Z.1 0 dX13_bits_15 rfl rfl ?_
    refine J_get (v := va_rf (hR h this 19)) Z.1 dX13_bits_16 fl_X13_31 t0 rfl ?_
    refine J_tr (fun r5 er5 => ?_)
    replace hf := lt_i hf r5 er5
    refine J_iconst Z.1 (v := 3) (by decide) dX13_bits_19 ?_
    obtain ⟨a5, rfl, hf⟩ := nn_i hf
    obtain ⟨t6, hf⟩ := tg_i hf
    obtain ⟨i7, hf⟩ := ix_i hf
    refine J_iaload Z.1 dX13_bits_20 t6 i7 ?_
    refine J_iload_n Z.1 2 dX13_bits_21 rfl rfl ?_
    refine J_ishr Z.1 dX13_bits_22 ?_
    refine J_iconst Z.1 (v := 1) (by decide) dX13_bits_23 ?_
    refine J_iand Z.1 dX13_bits_24 ?_
    refine J_iadd Z.1 dX13_bits_25 ?_
    refine J_ti (fun x8 ex8 => ?_)
    replace hf := lt_i hf x8 ex8
    refine J_istore_n Z.1 (lv2 := [(1, .int x8), (0, va_rf (some this)), (2, .int l2)]) dX13_bits_26 rfl (zL Z (by decide)) rfl ?_
    refine J_iinc Z.1 (v := 1) (lv2 := [(2, .int (l2 + 1)), (1, .int x8), (0, va_rf (some this))]) 2 dX13_bits_27 rfl (by decide) (zL Z (by decide)) rfl ?_
    obtain ⟨x9, ex9⟩ : ∃ z, z = (l2 + 1) := ⟨_, rfl⟩
    replace hf := lt_i hf x9 ex9
    rw [← ex9]
    refine J_goto Z.1 4 dX13_bits_30 (by decide) ?_
    refine J_lv [2, 1, 0] rfl ?_
    exact hk4 _ _ hf
def pX13_bits_l4 (g : MT) (h : CT) (this : Nat) : Nat → Int32 → Int32 → Option Int32
  | 0, _, _ => none
  | n + 1, l1, l2 => pX13_bits_b4 g h this (pX13_bits_l4 g h this n) l1 l2
theorem pX13_bits_l4_ok {X : Cx} {G : Gx} {dk : Nat} {g : MT} {r0 : Int32} {h : CT} {this : Nat} (Z : Zx X G cX13_bits RX13 3 dk (some .int) (some (.int r0)) g h) (hK : 0 ≤ dk) (t0 : gT g this = 12) : ∀ (n : Nat) (l1 : Int32) (l2 : Int32), pX13_bits_l4 g h this n l1 l2 = some r0 → J X g h 4 [(0, va_rf (some this)), (1, .int l1), (2, .int l2)] [] := by
  intro n
  induction n with
  | zero => intro l1 l2 hf; cases hf
  | succ n ih => intro l1 l2 hf; exact pX13_bits_b4_ok Z hK t0 ih l1 l2 hf
def pX13_bits (g : MT) (h : CT) (this : Nat) : Option Int32 := tg g this 12 (pX13_bits_l4 g h this  FUEL 0 0)
set_option maxRecDepth 10000 in
set_option maxHeartbeats 4000000 in
theorem pX13_bits_ok (G : Gx) (dk : Nat) (hK : 0 ≤ dk) {g : MT} {h : CT} {this : Nat} {r0 : Int32} (hf : pX13_bits g h this = some r0) : Ctr G dk yX13_bits cX13_bits 3 (some .int) [va_rf (some this)] g h (some (.int r0)) g h := by
  refine Ctr.ofZ (lv := [(0, va_rf (some this))]) (by decide +kernel) (by simp [cat_i, cat_l, cat_d, cat_rf]) rfl fun X Z => ?_
  unfold pX13_bits at hf
  obtain ⟨t0, hf⟩ := tg_i hf
  refine J_iconst Z.1 (v := 0) (by decide) dX13_bits_0 ?_
  refine J_istore_n Z.1 (lv2 := [(1, .int 0), (0, va_rf (some this))]) dX13_bits_1 rfl (zL Z (by decide)) rfl ?_
  refine J_iconst Z.1 (v := 0) (by decide) dX13_bits_2 ?_
  refine J_istore_n Z.1 (lv2 := [(2, .int 0), (1, .int 0), (0, va_rf (some this))]) dX13_bits_3 rfl (zL Z (by decide)) rfl ?_
  refine J_lv [2, 1, 0] rfl ?_
  exact pX13_bits_l4_ok Z hK t0  FUEL _ _ hf
theorem dX13_folded_0 : decode cX13_folded 0 = .ok (.iconst 0, 1) := by decide +kernel
theorem dX13_folded_1 : decode cX13_folded 1 = .ok (.istore 4, 2) := by decide +kernel
theorem dX13_folded_3 : decode cX13_folded 3 = .ok (.iload 4, 2) := by decide +kernel
theorem dX13_folded_5 : decode cX13_folded 5 = .ok (.iload_n 2, 1) := by decide +kernel
theorem dX13_folded_6 : decode cX13_folded 6 = .ok (.if_icmp .ge 28, 3) := by decide +kernel
theorem dX13_folded_9 : decode cX13_folded 9 = .ok (.aload_n 0, 1) := by decide +kernel
theorem dX13_folded_10 : decode cX13_folded 10 = .ok (.getfield 56, 3) := by decide +kernel
theorem dX13_folded_13 : decode cX13_folded 13 = .ok (.iload 4, 2) := by decide +kernel
theorem dX13_folded_15 : decode cX13_folded 15 = .ok (.aload_n 0, 1) := by decide +kernel
theorem dX13_folded_16 : decode cX13_folded 16 = .ok (.getfield 34, 3) := by decide +kernel
theorem dX13_folded_19 : decode cX13_folded 19 = .ok (.bipush 16, 2) := by decide +kernel
theorem dX13_folded_21 : decode cX13_folded 21 = .ok (.iload_n 1, 1) := by decide +kernel
theorem dX13_folded_22 : decode cX13_folded 22 = .ok (.imul, 1) := by decide +kernel
theorem dX13_folded_23 : decode cX13_folded 23 = .ok (.iload 4, 2) := by decide +kernel
theorem dX13_folded_25 : decode cX13_folded 25 = .ok (.iadd, 1) := by decide +kernel
theorem dX13_folded_26 : decode cX13_folded 26 = .ok (.daload, 1) := by decide +kernel
theorem dX13_folded_27 : decode cX13_folded 27 = .ok (.dastore, 1) := by decide +kernel
theorem dX13_folded_28 : decode cX13_folded 28 = .ok (.iinc 4 1, 3) := by decide +kernel
theorem dX13_folded_31 : decode cX13_folded 31 = .ok (.goto (-28), 3) := by decide +kernel
theorem dX13_folded_34 : decode cX13_folded 34 = .ok (.aload_n 0, 1) := by decide +kernel
theorem dX13_folded_35 : decode cX13_folded 35 = .ok (.iconst 0, 1) := by decide +kernel
theorem dX13_folded_36 : decode cX13_folded 36 = .ok (.putfield 487, 3) := by decide +kernel
theorem dX13_folded_39 : decode cX13_folded 39 = .ok (.iload_n 2, 1) := by decide +kernel
theorem dX13_folded_40 : decode cX13_folded 40 = .ok (.istore 4, 2) := by decide +kernel
theorem dX13_folded_42 : decode cX13_folded 42 = .ok (.iload 4, 2) := by decide +kernel
theorem dX13_folded_44 : decode cX13_folded 44 = .ok (.iconst 1, 1) := by decide +kernel
theorem dX13_folded_45 : decode cX13_folded 45 = .ok (.if_icmp .le 99, 3) := by decide +kernel
theorem dX13_folded_48 : decode cX13_folded 48 = .ok (.iload 4, 2) := by decide +kernel
theorem dX13_folded_50 : decode cX13_folded 50 = .ok (.iconst 1, 1) := by decide +kernel
theorem dX13_folded_51 : decode cX13_folded 51 = .ok (.iadd, 1) := by decide +kernel
theorem dX13_folded_52 : decode cX13_folded 52 = .ok (.iconst 2, 1) := by decide +kernel
theorem dX13_folded_53 : decode cX13_folded 53 = .ok (.idiv, 1) := by decide +kernel
theorem dX13_folded_54 : decode cX13_folded 54 = .ok (.istore 5, 2) := by decide +kernel
theorem dX13_folded_56 : decode cX13_folded 56 = .ok (.iconst 0, 1) := by decide +kernel
theorem dX13_folded_57 : decode cX13_folded 57 = .ok (.istore 6, 2) := by decide +kernel
theorem dX13_folded_59 : decode cX13_folded 59 = .ok (.iload 6, 2) := by decide +kernel
theorem dX13_folded_61 : decode cX13_folded 61 = .ok (.iload 4, 2) := by decide +kernel
theorem dX13_folded_63 : decode cX13_folded 63 = .ok (.iload 5, 2) := by decide +kernel
theorem dX13_folded_65 : decode cX13_folded 65 = .ok (.isub, 1) := by decide +kernel
theorem dX13_folded_66 : decode cX13_folded 66 = .ok (.if_icmp .ge 61, 3) := by decide +kernel
theorem dX13_folded_69 : decode cX13_folded 69 = .ok (.aload_n 0, 1) := by decide +kernel
theorem dX13_folded_70 : decode cX13_folded 70 = .ok (.getfield 56, 3) := by decide +kernel
theorem dX13_folded_73 : decode cX13_folded 73 = .ok (.iload 6, 2) := by decide +kernel
theorem dX13_folded_75 : decode cX13_folded 75 = .ok (.iload_n 3, 1) := by decide +kernel
theorem dX13_folded_76 : decode cX13_folded 76 = .ok (.ifCond .eq 24, 3) := by decide +kernel
theorem dX13_folded_79 : decode cX13_folded 79 = .ok (.aload_n 0, 1) := by decide +kernel
theorem dX13_folded_80 : decode cX13_folded 80 = .ok (.getfield 56, 3) := by decide +kernel
theorem dX13_folded_83 : decode cX13_folded 83 = .ok (.iload 6, 2) := by decide +kernel
theorem dX13_folded_85 : decode cX13_folded 85 = .ok (.daload, 1) := by decide +kernel
theorem dX13_folded_86 : decode cX13_folded 86 = .ok (.aload_n 0, 1) := by decide +kernel
theorem dX13_folded_87 : decode cX13_folded 87 = .ok (.getfield 56, 3) := by decide +kernel
theorem dX13_folded_90 : decode cX13_folded 90 = .ok (.iload 6, 2) := by decide +kernel
theorem dX13_folded_92 : decode cX13_folded 92 = .ok (.iload 5, 2) := by decide +kernel
theorem dX13_folded_94 : decode cX13_folded 94 = .ok (.iadd, 1) := by decide +kernel
theorem dX13_folded_95 : decode cX13_folded 95 = .ok (.daload, 1) := by decide +kernel
theorem dX13_folded_96 : decode cX13_folded 96 = .ok (.dadd, 1) := by decide +kernel
theorem dX13_folded_97 : decode cX13_folded 97 = .ok (.goto 23, 3) := by decide +kernel
theorem dX13_folded_100 : decode cX13_folded 100 = .ok (.aload_n 0, 1) := by decide +kernel
theorem dX13_folded_101 : decode cX13_folded 101 = .ok (.getfield 56, 3) := by decide +kernel
theorem dX13_folded_104 : decode cX13_folded 104 = .ok (.iload 6, 2) := by decide +kernel
theorem dX13_folded_106 : decode cX13_folded 106 = .ok (.daload, 1) := by decide +kernel
theorem dX13_folded_107 : decode cX13_folded 107 = .ok (.aload_n 0, 1) := by decide +kernel
theorem dX13_folded_108 : decode cX13_folded 108 = .ok (.getfield 56, 3) := by decide +kernel
theorem dX13_folded_111 : decode cX13_folded 111 = .ok (.iload 6, 2) := by decide +kernel
theorem dX13_folded_113 : decode cX13_folded 113 = .ok (.iload 5, 2) := by decide +kernel
theorem dX13_folded_115 : decode cX13_folded 115 = .ok (.iadd, 1) := by decide +kernel
theorem dX13_folded_116 : decode cX13_folded 116 = .ok (.daload, 1) := by decide +kernel
theorem dX13_folded_117 : decode cX13_folded 117 = .ok (.invokestatic 451, 3) := by decide +kernel
theorem dX13_folded_120 : decode cX13_folded 120 = .ok (.dastore, 1) := by decide +kernel
theorem dX13_folded_121 : decode cX13_folded 121 = .ok (.iinc 6 1, 3) := by decide +kernel
theorem dX13_folded_124 : decode cX13_folded 124 = .ok (.goto (-65), 3) := by decide +kernel
theorem dX13_folded_127 : decode cX13_folded 127 = .ok (.iload 5, 2) := by decide +kernel
theorem dX13_folded_129 : decode cX13_folded 129 = .ok (.istore 4, 2) := by decide +kernel
theorem dX13_folded_131 : decode cX13_folded 131 = .ok (.aload_n 0, 1) := by decide +kernel
theorem dX13_folded_132 : decode cX13_folded 132 = .ok (.dup, 1) := by decide +kernel
theorem dX13_folded_133 : decode cX13_folded 133 = .ok (.getfield 487, 3) := by decide +kernel
theorem dX13_folded_136 : decode cX13_folded 136 = .ok (.iconst 1, 1) := by decide +kernel
theorem dX13_folded_137 : decode cX13_folded 137 = .ok (.iadd, 1) := by decide +kernel
theorem dX13_folded_138 : decode cX13_folded 138 = .ok (.putfield 487, 3) := by decide +kernel
theorem dX13_folded_141 : decode cX13_folded 141 = .ok (.goto (-99), 3) := by decide +kernel
theorem dX13_folded_144 : decode cX13_folded 144 = .ok (.iload_n 2, 1) := by decide +kernel
theorem dX13_folded_145 : decode cX13_folded 145 = .ok (.ifCond .le 10, 3) := by decide +kernel
theorem dX13_folded_148 : decode cX13_folded 148 = .ok (.aload_n 0, 1) := by decide +kernel
theorem dX13_folded_149 : decode cX13_folded 149 = .ok (.getfield 56, 3) := by decide +kernel
theorem dX13_folded_152 : decode cX13_folded 152 = .ok (.iconst 0, 1) := by decide +kernel
theorem dX13_folded_153 : decode cX13_folded 153 = .ok (.daload, 1) := by decide +kernel
theorem dX13_folded_154 : decode cX13_folded 154 = .ok (.dreturn, 1) := by decide +kernel
theorem dX13_folded_155 : decode cX13_folded 155 = .ok (.iload_n 3, 1) := by decide +kernel
theorem dX13_folded_156 : decode cX13_folded 156 = .ok (.ifCond .eq 7, 3) := by decide +kernel
theorem dX13_folded_159 : decode cX13_folded 159 = .ok (.dconst 0, 1) := by decide +kernel
theorem dX13_folded_160 : decode cX13_folded 160 = .ok (.goto 7, 3) := by decide +kernel
theorem dX13_folded_163 : decode cX13_folded 163 = .ok (.iconst 4, 1) := by decide +kernel
theorem dX13_folded_164 : decode cX13_folded 164 = .ok (.invokestatic 315, 3) := by decide +kernel
theorem dX13_folded_167 : decode cX13_folded 167 = .ok (.dreturn, 1) := by decide +kernel
def pX13_folded_b120 (g : MT) (this : Nat) (p1 : Int32) (p2 : Int32) (p3 : Int32) (k42 : Int32 → CT → Option ((UInt64) × CT)) (k59 : Int32 → Int32 → Int32 → CT → Option ((UInt64) × CT)) (l4 : Int32) (l5 : Int32) (l6 : Int32) (r80 : Option Nat) (s1 : Int32) (s2 : UInt64) (h : CT) : Option ((UInt64) × CT) := nn r80 fun a80 => (tg g a80 22 (ix (gL g a80) s1 (lt (sD h a80 (Int32.toNatClampNeg s1) s2) fun h3 => (lt (l6 + 1) fun x4 => (k59 l4 l5 x4 h3)))))
set_option maxRecDepth 10000 in
set_option maxHeartbeats 4000000 in
theorem pX13_folded_b120_ok {X : Cx} {G : Gx} {dk : Nat} {g : MT} {r0 : UInt64} {h0 : CT} {this : Nat} {p1 : Int32} {p2 : Int32} {p3 : Int32} {k42 : Int32 → CT → Option ((UInt64) × CT)} {k59 : Int32 → Int32 → Int32 → CT → Option ((UInt64) × CT)} (Z : Zx X G cX13_folded RX13 7 dk (some .double) (some (.double r0)) g h0) (hK : 1 ≤ dk) (t0 : gT g this = 12) (hk42 : ∀ (l4 : Int32) (h : CT), k42 l4 h = some (r0, h0) → J X g h 42 [(0, va_rf (some this)), (2, .int p2), (3, .int p3), (4, .int l4)] []) (hk59 : ∀ (l4 : Int32) (l5 : Int32) (l6 : Int32) (h : CT), k59 l4 l5 l6 h = some (r0, h0) → J X g h 59 [(0, va_rf (some this)), (2, .int p2), (3, .int p3), (4, .int l4), (5, .int l5), (6, .int l6)] []) (l4 : Int32) (l5 : Int32) (l6 : Int32) (r80 : Option Nat) (s1 : Int32) (s2 : UInt64) (h : CT) (hf : pX13_folded_b120 g this p1 p2 p3 k42 k59 l4 l5 l6 r80 s1 s2 h = some (r0, h0)) : J X g h 120 [(0, va_rf (some this)), (2, .int p2), (3, .int p3), (4, .int l4), (5, .int l5), (6, .int l6)] [.double s2, .int s1, va_rf r80] := by
  unfold pX13_folded_b120 at hf
  obtain ⟨a80, rfl, hf⟩ := nn_i hf
  obtain ⟨t1, hf⟩ := tg_i hf
  obtain ⟨i2, hf⟩ := ix_i hf
  refine J_dastore Z.1 dX13_folded_120 t1 i2 ?_
  refine J_th (fun h3 eh3 => ?_)
  replace hf := lt_i hf h3 eh3
  refine J_iinc Z.1 (v := 1) (lv2 := [(6, .int (l6 + 1)), (0, va_rf (some this)), (2, .int p2), (3, .int p3), (4, .int l4), (5, .int l5)]) 5 dX13_folded_121 rfl (by decide) (zL Z (by decide)) rfl ?_
  obtain ⟨x4, ex4⟩ : ∃ z, z = (l6 + 1) := ⟨_, rfl⟩
  replace hf := lt_i hf x4 ex4
  rw [← ex4]
  refine J_goto Z.1 59 dX13_folded_124 (by decide) ?_
  refine J_lv [1, 2, 3, 4, 5, 0] rfl ?_
  exact hk59 _ _ _ _ hf
def pX13_folded_b59 (g : MT) (this : Nat) (p1 : Int32) (p2 : Int32) (p3 : Int32) (k42 : Int32 → CT → Option ((UInt64) × CT)) (k59 : Int32 → Int32 → Int32 → CT → Option ((UInt64) × CT)) (l4 : Int32) (l5 : Int32) (l6 : Int32) (h : CT) : Option ((UInt64) × CT) := if (l4 - l5) ≤ l6 then lt (sI h this 44 ((hI h this 44) + 1)) fun h2 => (k42 l5 h2) else lt (hR h this 43) fun r3 => (if p3 = 0 then lt (hR h this 43) fun r5 => (nn r5 fun a5 => (tg g a5 22 (ix (gL g a5) l6 (lt (hR h this 43) fun r8 => (nn r8 fun a8 => (tg g a8 22 (ix (gL g a8) (l6 + l5) (pX13_folded_b120 g this p1 p2 p3 k42 k59 l4 l5 l6 r3 l6 (fmax (hD h a5 (Int32.toNatClampNeg l6)) (hD h a8 (Int32.toNatClampNeg (l6 + l5)))) h)))))))) else lt (hR h this 43) fun r11 => (nn r11 fun a11 => (tg g a11 22 (ix (gL g a11) l6 (lt (hR h this 43) fun r14 => (nn r14 fun a14 => (tg g a14 22 (ix (gL g a14) (l6 + l5) (pX13_folded_b120 g this p1 p2 p3 k42 k59 l4 l5 l6 r3 l6 (fadd (hD h a11 (Int32.toNatClampNeg l6)) (hD h a14 (Int32.toNatClampNeg (l6 + l5)))) h)))))))))
set_option maxRecDepth 10000 in
set_option maxHeartbeats 4000000 in
theorem pX13_folded_b59_ok {X : Cx} {G : Gx} {dk : Nat} {g : MT} {r0 : UInt64} {h0 : CT} {this : Nat} {p1 : Int32} {p2 : Int32} {p3 : Int32} {k42 : Int32 → CT → Option ((UInt64) × CT)} {k59 : Int32 → Int32 → Int32 → CT → Option ((UInt64) × CT)} (Z : Zx X G cX13_folded RX13 7 dk (some .double) (some (.double r0)) g h0) (hK : 1 ≤ dk) (t0 : gT g this = 12) (hk42 : ∀ (l4 : Int32) (h : CT), k42 l4 h = some (r0, h0) → J X g h 42 [(0, va_rf (some this)), (2, .int p2), (3, .int p3), (4, .int l4)] []) (hk59 : ∀ (l4 : Int32) (l5 : Int32) (l6 : Int32) (h : CT), k59 l4 l5 l6 h = some (r0, h0) → J X g h 59 [(0, va_rf (some this)), (2, .int p2), (3, .int p3), (4, .int l4), (5, .int l5), (6, .int l6)] []) (l4 : Int32) (l5 : Int32) (l6 : Int32) (h : CT) (hf : pX13_folded_b59 g this p1 p2 p3 k42 k59 l4 l5 l6 h = some (r0, h0)) : J X g h 59 [(0, va_rf (some this)), (2, .int p2), (3, .int p3), (4, .int l4), (5, .int l5), (6, .int l6)] [] := by
  unfold pX13_folded_b59 at hf
  refine J_iload Z.1 5 dX13_folded_59 rfl ?_
  refine J_iload Z.1 3 dX13_folded_61 rfl ?_
  refine J_iload Z.1 4 dX13_folded_63 rfl ?_
  refine J_isub Z.1 dX13_folded_65 ?_
  refine J_icmp_ge Z.1 127 dX13_folded_66 (by decide) (fun c1 => ?_) (fun c1 => ?_)
  · rw [if_pos c1] at hf
    refine J_iload Z.1 4 dX13_folded_127 rfl ?_
    refine J_istore Z.1 (lv2 := [(4, .int l5), (0, va_rf (some this)), (2, .int p2), (3, .int p3), (5, .int l5), (6, .int l6)]) dX13_folded_129 (zL Z (by decide)) rfl ?_
    refine J_aload_n Z.1 1 dX13_folded_131 rfl rfl ?_
    refine J_dup Z.1 dX13_folded_132 rfl ?_
    refine J_get (v := .int (hI h this 44)) Z.1 dX13_folded_133 fl_X13_487 t0 rfl ?_
    refine J_iconst Z.1 (v := 1) (by decide) dX13_folded_136 ?_
    refine J_iadd Z.1 dX13_folded_137 ?_
    refine J_putI Z.1 dX13_folded_138 fl_X13_487 (fun q => by cases q) t0 rfl rfl (congrArg Value.int (hI_s _ _ _ _)) ?_
    refine J_th (fun h2 eh2 => ?_)
    replace hf := lt_i hf h2 eh2
    refine J_goto Z.1 42 dX13_folded_141 (by decide) ?_
    refine J_lv [1, 2, 3, 0] rfl ?_
    exact hk42 _ _ hf
  · rw [if_neg c1] at hf
    refine J_aload_n Z.1 0 dX13_folded_69 rfl rfl ?_
    refine J_get (v := va_rf (hR h this 43)) Z.1 dX13_folded_70 fl_X13_56 t0 rfl ?_
    refine J_tr (fun r3 er3 => ?_)
    replace hf := lt_i hf r3 er3
    refine J_iload Z.1 5 dX13_folded_73 rfl ?_
    refine J_iload_n Z.1 2 dX13_folded_75 rfl rfl ?_
    refine J_if_eq Z.1 100 dX13_folded_76 (by decide) (fun c4 => ?_) (fun c4 => ?_)
    · rw [if_pos c4] at hf
      refine J_aload_n Z.1 0 dX13_folded_100 rfl rfl ?_
      refine J_get (v := va_rf (hR h this 43)) Z.1 dX13_folded_101 fl_X13_56 t0 rfl ?_
      refine J_tr (fun r5 er5 => ?_)
      replace hf := lt_i hf r5 er5
      refine J_iload Z.1 5 dX13_folded_104 rfl ?_
      obtain ⟨a5, rfl, hf⟩ := nn_i hf
      obtain ⟨t6, hf⟩ := tg_i hf
      obtain ⟨i7, hf⟩ := ix_i hf
      refine J_daload Z.1 dX13_folded_106 t6 i7 ?_
      refine J_aload_n Z.1 0 dX13_folded_107 rfl rfl ?_
      refine J_get (v := va_rf (hR h this 43)) Z.1 dX13_folded_108 fl_X13_56 t0 rfl ?_
      refine J_tr (fun r8 er8 => ?_)
      replace hf := lt_i hf r8 er8
      refine J_iload Z.1 5 dX13_folded_111 rfl ?_
      refine J_iload Z.1 4 dX13_folded_113 rfl ?_
      refine J_iadd Z.1 dX13_folded_115 ?_
      obtain ⟨a8, rfl, hf⟩ := nn_i hf
      obtain ⟨t9, hf⟩ := tg_i hf
      obtain ⟨i10, hf⟩ := ix_i hf
      refine J_daload Z.1 dX13_folded_116 t9 i10 ?_
      refine J_dmax Z.1 dX13_folded_117 q_2003 q_2004 q_142 q_2005 Z.2.1 (zF Z (d := 0) (by omega)) (zO1 Z (by omega) (by simp [cat_i, cat_l, cat_d, cat_rf])) ?_
      exact pX13_folded_b120_ok Z hK t0 hk42 hk59 _ _ _ _ _ _ _ hf
    · rw [if_neg c4] at hf
      refine J_aload_n Z.1 0 dX13_folded_79 rfl rfl ?_
      refine J_get (v := va_rf (hR h this 43)) Z.1 dX13_folded_80 fl_X13_56 t0 rfl ?_
      refine J_tr (fun r11 er11 => ?_)
      replace hf := lt_i hf r11 er11
      refine J_iload Z.1 5 dX13_folded_83 rfl ?_
      obtain ⟨a11, rfl, hf⟩ := nn_i hf
      obtain ⟨t12, hf⟩ := tg_i hf
      obtain ⟨i13, hf⟩ := ix_i hf
      refine J_daload Z.1 dX13_folded_85 t12 i13 ?_
      refine J_aload_n Z.1 0 dX13_folded_86 rfl rfl ?_
      refine J_get (v := va_rf (hR h this 43)) Z.1 dX13_folded_87 fl_X13_56 t0 rfl ?_
      refine J_tr (fun r14 er14 => ?_)
      replace hf := lt_i hf r14 er14
      refine J_iload Z.1 5 dX13_folded_90 rfl ?_
      refine J_iload Z.1 4 dX13_folded_92 rfl ?_
      refine J_iadd Z.1 dX13_folded_94 ?_
      obtain ⟨a14, rfl, hf⟩ := nn_i hf
      obtain ⟨t15, hf⟩ := tg_i hf
      obtain ⟨i16, hf⟩ := ix_i hf
      refine J_daload Z.1 dX13_folded_95 t15 i16 ?_
      refine J_dadd Z.1 dX13_folded_96 ?_
      refine J_goto Z.1 120 dX13_folded_97 (by decide) ?_
      exact pX13_folded_b120_ok Z hK t0 hk42 hk59 _ _ _ _ _ _ _ hf
def pX13_folded_l59 (g : MT) (this : Nat) (p1 : Int32) (p2 : Int32) (p3 : Int32) (k42 : Int32 → CT → Option ((UInt64) × CT)) : Nat → Int32 → Int32 → Int32 → CT → Option ((UInt64) × CT)
  | 0, _, _, _, _ => none
  | n + 1, l4, l5, l6, h => pX13_folded_b59 g this p1 p2 p3 k42 (pX13_folded_l59 g this p1 p2 p3 k42 n) l4 l5 l6 h
theorem pX13_folded_l59_ok {X : Cx} {G : Gx} {dk : Nat} {g : MT} {r0 : UInt64} {h0 : CT} {this : Nat} {p1 : Int32} {p2 : Int32} {p3 : Int32} {k42 : Int32 → CT → Option ((UInt64) × CT)} (Z : Zx X G cX13_folded RX13 7 dk (some .double) (some (.double r0)) g h0) (hK : 1 ≤ dk) (t0 : gT g this = 12) (hk42 : ∀ (l4 : Int32) (h : CT), k42 l4 h = some (r0, h0) → J X g h 42 [(0, va_rf (some this)), (2, .int p2), (3, .int p3), (4, .int l4)] []) : ∀ (n : Nat) (l4 : Int32) (l5 : Int32) (l6 : Int32) (h : CT), pX13_folded_l59 g this p1 p2 p3 k42 n l4 l5 l6 h = some (r0, h0) → J X g h 59 [(0, va_rf (some this)), (2, .int p2), (3, .int p3), (4, .int l4), (5, .int l5), (6, .int l6)] [] := by
  intro n
  induction n with
  | zero => intro l4 l5 l6 h hf; cases hf
  | succ n ih => intro l4 l5 l6 h hf; exact pX13_folded_b59_ok Z hK t0 hk42 ih l4 l5 l6 h hf
def pX13_folded_b42 (g : MT) (this : Nat) (p1 : Int32) (p2 : Int32) (p3 : Int32) (k42 : Int32 → CT → Option ((UInt64) × CT)) (l4 : Int32) (h : CT) : Option ((UInt64) × CT) := if l4 ≤ 1 then if p2 ≤ 0 then if p3 = 0 then some ((pX13_strangeOf 4), h) else some (0, h) else lt (hR h this 43) fun r4 => (nn r4 fun a4 => (tg g a4 22 (ix (gL g a4) 0 (some ((hD h a4 (Int32.toNatClampNeg 0)), h))))) else lt ((l4 + 1) / 2) fun x7 => (pX13_folded_l59 g this p1 p2 p3 k42 FUEL l4 x7 0 h)
set_option maxRecDepth 10000 in
set_option maxHeartbeats 4000000 in
theorem pX13_folded_b42_ok {X : Cx} {G : Gx} {dk : Nat} {g : MT} {r0 : UInt64} {h0 : CT} {this : Nat} {p1 : Int32} {p2 : Int32} {p3 : Int32} {k42 : Int32 → CT → Option ((UInt64) × CT)} (Z : Zx X G cX13_folded RX13 7 dk (some .double) (some (.double r0)) g h0) (hK : 1 ≤ dk) (t0 : gT g this = 12) (hk42 : ∀ (l4 : Int32) (h : CT), k42 l4 h = some (r0, h0) → J X g h 42 [(0, va_rf (some this)), (2, .int p2), (3, .int p3), (4, .int l4)] []) (l4 : Int32) (h : CT) (hf : pX13_folded_b42 g this p1 p2 p3 k42 l4 h = some (r0, h0)) : J X g h 42 [(0, va_rf (some this)), (2, .int p2), (3, .int p3), (4, .int l4)] [] := by
  unfold pX13_folded_b42 at hf
  refine J_iload Z.1 3 dX13_folded_42 rfl ?_
  refine J_iconst Z.1 (v := 1) (by decide) dX13_folded_44 ?_
  refine J_icmp_le Z.1 144 dX13_folded_45 (by decide) (fun c1 => ?_) (fun c1 => ?_)
  · rw [if_pos c1] at hf
    refine J_iload_n Z.1 1 dX13_folded_144 rfl rfl ?_
    refine J_if_le Z.1 155 dX13_folded_145 (by decide) (fun c2 => ?_) (fun c2 => ?_)
    · rw [if_pos c2] at hf
      refine J_iload_n Z.1 2 dX13_folded_155 rfl rfl ?_
      refine J_if_eq Z.1 163 dX13_folded_156 (by decide) (fun c3 => ?_) (fun c3 => ?_)
      · rw [if_pos c3] at hf
        refine J_iconst Z.1 (v := 4) (by decide) dX13_folded_163 ?_
        refine J_callS (as := [.int 4]) (rest := []) (sy := [.double (pX13_strangeOf 4)]) Z.1 dX13_folded_164 cw_X13_315 (pX13_strangeOf_ok G (dk - 1) (by omega) g h 4) (zG Z) rfl (by decide) (zF Z (by omega)) (zO Z (by omega) (by decide)) (zM _) Z.2.1 Z.2.1 rfl rfl ?_
        cases hf
        exact J_dret Z.1 Z.2.2.2.2.2 dX13_folded_167
      · rw [if_neg c3] at hf
        refine J_dconst0 Z.1 dX13_folded_159 ?_
        refine J_goto Z.1 167 dX13_folded_160 (by decide) ?_
        cases hf
        exact J_dret Z.1 Z.2.2.2.2.2 dX13_folded_167
    · rw [if_neg c2] at hf
      refine J_aload_n Z.1 0 dX13_folded_148 rfl rfl ?_
      refine J_get (v := va_rf (hR h this 43)) Z.1 dX13_folded_149 fl_X13_56 t0 rfl ?_
      refine J_tr (fun r4 er4 => ?_)
      replace hf := lt_i hf r4 er4
      refine J_iconst Z.1 (v := 0) (by decide) dX13_folded_152 ?_
      obtain ⟨a4, rfl, hf⟩ := nn_i hf
      obtain ⟨t5, hf⟩ := tg_i hf
      obtain ⟨i6, hf⟩ := ix_i hf
      refine J_daload Z.1 dX13_folded_153 t5 i6 ?_
      cases hf
      exact J_dret Z.1 Z.2.2.2.2.2 dX13_folded_154
  · rw [if_neg c1] at hf
    refine J_iload Z.1 3 dX13_folded_48 rfl ?_
    refine J_iconst Z.1 (v := 1) (by decide) dX13_folded_50 ?_
    refine J_iadd Z.1 dX13_folded_51 ?_
    refine J_iconst Z.1 (v := 2) (by decide) dX13_folded_52 ?_
    refine J_idiv Z.1 (by decide) dX13_folded_53 ?_
    refine J_ti (fun x7 ex7 => ?_)
    replace hf := lt_i hf x7 ex7
    refine J_istore Z.1 (lv2 := [(5, .int x7), (0, va_rf (some this)), (2, .int p2), (3, .int p3), (4, .int l4)]) dX13_folded_54 (zL Z (by decide)) rfl ?_
    refine J_iconst Z.1 (v := 0) (by decide) dX13_folded_56 ?_
    refine J_istore Z.1 (lv2 := [(6, .int 0), (5, .int x7), (0, va_rf (some this)), (2, .int p2), (3, .int p3), (4, .int l4)]) dX13_folded_57 (zL Z (by decide)) rfl ?_
    refine J_lv [2, 3, 4, 5, 1, 0] rfl ?_
    exact pX13_folded_l59_ok Z hK t0 hk42 FUEL _ _ _ _ hf
def pX13_folded_l42 (g : MT) (this : Nat) (p1 : Int32) (p2 : Int32) (p3 : Int32) : Nat → Int32 → CT → Option ((UInt64) × CT)
  | 0, _, _ => none
  | n + 1, l4, h => pX13_folded_b42 g this p1 p2 p3 (pX13_folded_l42 g this p1 p2 p3 n) l4 h
theorem pX13_folded_l42_ok {X : Cx} {G : Gx} {dk : Nat} {g : MT} {r0 : UInt64} {h0 : CT} {this : Nat} {p1 : Int32} {p2 : Int32} {p3 : Int32} (Z : Zx X G cX13_folded RX13 7 dk (some .double) (some (.double r0)) g h0) (hK : 1 ≤ dk) (t0 : gT g this = 12) : ∀ (n : Nat) (l4 : Int32) (h : CT), pX13_folded_l42 g this p1 p2 p3 n l4 h = some (r0, h0) → J X g h 42 [(0, va_rf (some this)), (2, .int p2), (3, .int p3), (4, .int l4)] [] := by
  intro n
  induction n with
  | zero => intro l4 h hf; cases hf
  | succ n ih => intro l4 h hf; exact pX13_folded_b42_ok Z hK t0 ih l4 h hf
def pX13_folded_b3 (g : MT) (this : Nat) (p1 : Int32) (p2 : Int32) (p3 : Int32) (k3 : Int32 → CT → Option ((UInt64) × CT)) (l4 : Int32) (h : CT) : Option ((UInt64) × CT) := if p2 ≤ l4 then lt (sI h this 44 0) fun h2 => (pX13_folded_l42 g this p1 p2 p3  FUEL p2 h2) else lt (hR h this 43) fun r3 => (lt (hR h this 20) fun r4 => (nn r4 fun a4 => (tg g a4 22 (ix (gL g a4) ((16 * p1) + l4) (nn r3 fun a3 => (tg g a3 22 (ix (gL g a3) l4 (lt (sD h a3 (Int32.toNatClampNeg l4) (hD h a4 (Int32.toNatClampNeg ((16 * p1) + l4)))) fun h9 => (lt (l4 + 1) fun x10 => (k3 x10 h9))))))))))
set_option maxRecDepth 10000 in
set_option maxHeartbeats 4000000 in
theorem pX13_folded_b3_ok {X : Cx} {G : Gx} {dk : Nat} {g : MT} {r0 : UInt64} {h0 : CT} {this : Nat} {p1 : Int32} {p2 : Int32} {p3 : Int32} {k3 : Int32 → CT → Option ((UInt64) × CT)} (Z : Zx X G cX13_folded RX13 7 dk (some .double) (some (.double r0)) g h0) (hK : 1 ≤ dk) (t0 : gT g this = 12) (hk3 : ∀ (l4 : Int32) (h : CT), k3 l4 h = some (r0, h0) → J X g h 3 [(0, va_rf (some this)), (1, .int p1), (2, .int p2), (3, .int p3), (4, .int l4)] []) (l4 : Int32) (h : CT) (hf : pX13_folded_b3 g this p1 p2 p3 k3 l4 h = some (r0, h0)) : J X g h 3 [(0, va_rf (some this)), (1, .int p1), (2, .int p2), (3, .int p3), (4, .int l4)] [] := by
  unfold pX13_folded_b3 at hf
  refine J_iload Z.1 4 dX13_folded_3 rfl ?_
  refine J_iload_n Z.1 2 dX13_folded_5 rfl rfl ?_
  refine J_icmp_ge Z.1 34 dX13_folded_6 (by decide) (fun c1 => ?_) (fun c1 => ?_)
  · rw [if_pos c1] at hf
    refine J_aload_n Z.1 0 dX13_folded_34 rfl rfl ?_
    refine J_iconst Z.1 (v := 0) (by decide) dX13_folded_35 ?_
    refine J_putI Z.1 dX13_folded_36 fl_X13_487 (fun q => by cases q) t0 rfl rfl (congrArg Value.int (hI_s _ _ _ _)) ?_
    refine J_th (fun h2 eh2 => ?_)
    replace hf := lt_i hf h2 eh2
    refine J_iload_n Z.1 2 dX13_folded_39 rfl rfl ?_
    refine J_istore Z.1 (lv2 := [(4, .int p2), (0, va_rf (some this)), (1, .int p1), (2, .int p2), (3, .int p3)]) dX13_folded_40 (zL Z (by decide)) rfl ?_
    refine J_lv [1, 3, 4, 0] rfl ?_
    exact pX13_folded_l42_ok Z hK t0  FUEL _ _ hf
  · rw [if_neg c1] at hf
    refine J_aload_n Z.1 0 dX13_folded_9 rfl rfl ?_
    refine J_get (v := va_rf (hR h this 43)) Z.1 dX13_folded_10 fl_X13_56 t0 rfl ?_
    refine J_tr (fun r3 er3 => ?_)
    replace hf := lt_i hf r3 er3
    refine J_iload Z.1 4 dX13_folded_13 rfl ?_
    refine J_aload_n Z.1 0 dX13_folded_15 rfl rfl ?_
    refine J_get (v := va_rf (hR h this 20)) Z.1 dX13_folded_16 fl_X13_34 t0 rfl ?_
    refine J_tr (fun r4 er4 => ?_)
    replace hf := lt_i hf r4 er4
    refine J_bipush Z.1 (v := 16) (by decide) dX13_folded_19 ?_
    refine J_iload_n Z.1 1 dX13_folded_21 rfl rfl ?_
    refine J_imul Z.1 dX13_folded_22 ?_
    refine J_iload Z.1 4 dX13_folded_23 rfl ?_
    refine J_iadd Z.1 dX13_folded_25 ?_
    obtain ⟨a4, rfl, hf⟩ := nn_i hf
    obtain ⟨t5, hf⟩ := tg_i hf
    obtain ⟨i6, hf⟩ := ix_i hf
    refine J_daload Z.1 dX13_folded_26 t5 i6 ?_
    obtain ⟨a3, rfl, hf⟩ := nn_i hf
    obtain ⟨t7, hf⟩ := tg_i hf
    obtain ⟨i8, hf⟩ := ix_i hf
    refine J_dastore Z.1 dX13_folded_27 t7 i8 ?_
    refine J_th (fun h9 eh9 => ?_)
    replace hf := lt_i hf h9 eh9
    refine J_iinc Z.1 (v := 1) (lv2 := [(4, .int (l4 + 1)), (0, va_rf (some this)), (1, .int p1), (2, .int p2), (3, .int p3)]) 4 dX13_folded_28 rfl (by decide) (zL Z (by decide)) rfl ?_
    obtain ⟨x10, ex10⟩ : ∃ z, z = (l4 + 1) := ⟨_, rfl⟩
    replace hf := lt_i hf x10 ex10
    rw [← ex10]
    refine J_goto Z.1 3 dX13_folded_31 (by decide) ?_
    refine J_lv [1, 2, 3, 4, 0] rfl ?_
    exact hk3 _ _ hf
def pX13_folded_l3 (g : MT) (this : Nat) (p1 : Int32) (p2 : Int32) (p3 : Int32) : Nat → Int32 → CT → Option ((UInt64) × CT)
  | 0, _, _ => none
  | n + 1, l4, h => pX13_folded_b3 g this p1 p2 p3 (pX13_folded_l3 g this p1 p2 p3 n) l4 h
theorem pX13_folded_l3_ok {X : Cx} {G : Gx} {dk : Nat} {g : MT} {r0 : UInt64} {h0 : CT} {this : Nat} {p1 : Int32} {p2 : Int32} {p3 : Int32} (Z : Zx X G cX13_folded RX13 7 dk (some .double) (some (.double r0)) g h0) (hK : 1 ≤ dk) (t0 : gT g this = 12) : ∀ (n : Nat) (l4 : Int32) (h : CT), pX13_folded_l3 g this p1 p2 p3 n l4 h = some (r0, h0) → J X g h 3 [(0, va_rf (some this)), (1, .int p1), (2, .int p2), (3, .int p3), (4, .int l4)] [] := by
  intro n
  induction n with
  | zero => intro l4 h hf; cases hf
  | succ n ih => intro l4 h hf; exact pX13_folded_b3_ok Z hK t0 ih l4 h hf
def pX13_folded (g : MT) (h : CT) (this : Nat) (p1 : Int32) (p2 : Int32) (p3 : Int32) : Option ((UInt64) × CT) := tg g this 12 (pX13_folded_l3 g this p1 p2 p3  FUEL 0 h)
set_option maxRecDepth 10000 in
set_option maxHeartbeats 4000000 in
theorem pX13_folded_ok (G : Gx) (dk : Nat) (hK : 1 ≤ dk) {g : MT} {h h0 : CT} {this : Nat} {p1 : Int32} {p2 : Int32} {p3 : Int32} {r0 : UInt64} (hf : pX13_folded g h this p1 p2 p3 = some (r0, h0)) : Ctr G dk yX13_folded cX13_folded 7 (some .double) [va_rf (some this), .int p1, .int p2, .int p3] g h (some (.double r0)) g h0 := by
  refine Ctr.ofZ (lv := [(0, va_rf (some this)), (1, .int p1), (2, .int p2), (3, .int p3)]) (by decide +kernel) (by simp [cat_i, cat_l, cat_d, cat_rf]) rfl fun X Z => ?_
  unfold pX13_folded at hf
  obtain ⟨t0, hf⟩ := tg_i hf
  refine J_iconst Z.1 (v := 0) (by decide) dX13_folded_0 ?_
  refine J_istore Z.1 (lv2 := [(4, .int 0), (0, va_rf (some this)), (1, .int p1), (2, .int p2), (3, .int p3)]) dX13_folded_1 (zL Z (by decide)) rfl ?_
  refine J_lv [1, 2, 3, 4, 0] rfl ?_
  exact pX13_folded_l3_ok Z hK t0  FUEL _ _ hf
theorem dX13_ends_0 : decode cX13_ends 0 = .ok (.aload_n 0, 1) := by decide +kernel
theorem dX13_ends_1 : decode cX13_ends 1 = .ok (.iload_n 2, 1) := by decide +kernel
theorem dX13_ends_2 : decode cX13_ends 2 = .ok (.putfield 401, 3) := by decide +kernel
theorem dX13_ends_5 : decode cX13_ends 5 = .ok (.aload_n 0, 1) := by decide +kernel
theorem dX13_ends_6 : decode cX13_ends 6 = .ok (.getfield 53, 3) := by decide +kernel
theorem dX13_ends_9 : decode cX13_ends 9 = .ok (.iload_n 1, 1) := by decide +kernel
theorem dX13_ends_10 : decode cX13_ends 10 = .ok (.iload_n 2, 1) := by decide +kernel
theorem dX13_ends_11 : decode cX13_ends 11 = .ok (.iastore, 1) := by decide +kernel
theorem dX13_ends_12 : decode cX13_ends 12 = .ok (.aload_n 0, 1) := by decide +kernel
theorem dX13_ends_13 : decode cX13_ends 13 = .ok (.iload_n 2, 1) := by decide +kernel
theorem dX13_ends_14 : decode cX13_ends 14 = .ok (.invokevirtual 478, 3) := by decide +kernel
theorem dX13_ends_17 : decode cX13_ends 17 = .ok (.return_, 1) := by decide +kernel
def pX13_ends (g : MT) (h : CT) (this : Nat) (p1 : Int32) (p2 : Int32) : Option CT := tg g this 12 (lt (sI h this 31 p2) fun h1 => (lt (hR h1 this 28) fun r2 => (nn r2 fun a2 => (tg g a2 20 (ix (gL g a2) p1 (lt (sI h1 a2 (Int32.toNatClampNeg p1) p2) fun h5 => (bd (pX13_lasts g h5 this p2) fun h6 => (some h6))))))))
set_option maxRecDepth 10000 in
set_option maxHeartbeats 4000000 in
theorem pX13_ends_ok (G : Gx) (dk : Nat) (hK : 2 ≤ dk) {g : MT} {h h0 : CT} {this : Nat} {p1 : Int32} {p2 : Int32} (hf : pX13_ends g h this p1 p2 = some h0) : Ctr G dk yX13_ends cX13_ends 3 none [va_rf (some this), .int p1, .int p2] g h none g h0 := by
  refine Ctr.ofZ (lv := [(0, va_rf (some this)), (1, .int p1), (2, .int p2)]) (by decide +kernel) (by simp [cat_i, cat_l, cat_d, cat_rf]) rfl fun X Z => ?_
  unfold pX13_ends at hf
  obtain ⟨t0, hf⟩ := tg_i hf
  refine J_aload_n Z.1 0 dX13_ends_0 rfl rfl ?_
  refine J_iload_n Z.1 2 dX13_ends_1 rfl rfl ?_
  refine J_putI Z.1 dX13_ends_2 fl_X13_401 (fun q => by cases q) t0 rfl rfl (congrArg Value.int (hI_s _ _ _ _)) ?_
  refine J_th (fun h1 eh1 => ?_)
  replace hf := lt_i hf h1 eh1
  refine J_aload_n Z.1 0 dX13_ends_5 rfl rfl ?_
  refine J_get (v := va_rf (hR h1 this 28)) Z.1 dX13_ends_6 fl_X13_53 t0 rfl ?_
  refine J_tr (fun r2 er2 => ?_)
  replace hf := lt_i hf r2 er2
  refine J_iload_n Z.1 1 dX13_ends_9 rfl rfl ?_
  refine J_iload_n Z.1 2 dX13_ends_10 rfl rfl ?_
  obtain ⟨a2, rfl, hf⟩ := nn_i hf
  obtain ⟨t3, hf⟩ := tg_i hf
  obtain ⟨i4, hf⟩ := ix_i hf
  refine J_iastore Z.1 dX13_ends_11 t3 i4 ?_
  refine J_th (fun h5 eh5 => ?_)
  replace hf := lt_i hf h5 eh5
  refine J_aload_n Z.1 0 dX13_ends_12 rfl rfl ?_
  refine J_iload_n Z.1 2 dX13_ends_13 rfl rfl ?_
  obtain ⟨h6, q7, hf⟩ := bd_i hf
  refine J_callV (ci := 11) (as := [.int p2]) (rest := []) (sy := []) Z.1 dX13_ends_14 cw_X13_478 (pX13_lasts_ok G (dk - 1) (by omega) q7) rfl rfl t0 (zG Z) rfl (by decide) (zF Z (by omega)) (zO Z (by omega) (by decide)) (zM _) Z.2.1 Z.2.1 rfl rfl ?_
  cases hf
  exact J_vret Z.1 Z.2.2.2.2.2 dX13_ends_17
theorem dX13_counts_0 : decode cX13_counts 0 = .ok (.aload_n 0, 1) := by decide +kernel
theorem dX13_counts_1 : decode cX13_counts 1 = .ok (.getfield 34, 3) := by decide +kernel
theorem dX13_counts_4 : decode cX13_counts 4 = .ok (.bipush 96, 2) := by decide +kernel
theorem dX13_counts_6 : decode cX13_counts 6 = .ok (.aload_n 0, 1) := by decide +kernel
theorem dX13_counts_7 : decode cX13_counts 7 = .ok (.iload_n 1, 1) := by decide +kernel
theorem dX13_counts_8 : decode cX13_counts 8 = .ok (.iconst 5, 1) := by decide +kernel
theorem dX13_counts_9 : decode cX13_counts 9 = .ok (.invokevirtual 381, 3) := by decide +kernel
theorem dX13_counts_12 : decode cX13_counts 12 = .ok (.iadd, 1) := by decide +kernel
theorem dX13_counts_13 : decode cX13_counts 13 = .ok (.aload_n 0, 1) := by decide +kernel
theorem dX13_counts_14 : decode cX13_counts 14 = .ok (.invokevirtual 497, 3) := by decide +kernel
theorem dX13_counts_17 : decode cX13_counts 17 = .ok (.i2d, 1) := by decide +kernel
theorem dX13_counts_18 : decode cX13_counts 18 = .ok (.dastore, 1) := by decide +kernel
theorem dX13_counts_19 : decode cX13_counts 19 = .ok (.aload_n 0, 1) := by decide +kernel
theorem dX13_counts_20 : decode cX13_counts 20 = .ok (.aload_n 0, 1) := by decide +kernel
theorem dX13_counts_21 : decode cX13_counts 21 = .ok (.getfield 407, 3) := by decide +kernel
theorem dX13_counts_24 : decode cX13_counts 24 = .ok (.iload_n 2, 1) := by decide +kernel
theorem dX13_counts_25 : decode cX13_counts 25 = .ok (.invokestatic 178, 3) := by decide +kernel
theorem dX13_counts_28 : decode cX13_counts 28 = .ok (.putfield 407, 3) := by decide +kernel
theorem dX13_counts_31 : decode cX13_counts 31 = .ok (.aload_n 0, 1) := by decide +kernel
theorem dX13_counts_32 : decode cX13_counts 32 = .ok (.iload_n 1, 1) := by decide +kernel
theorem dX13_counts_33 : decode cX13_counts 33 = .ok (.iload_n 2, 1) := by decide +kernel
theorem dX13_counts_34 : decode cX13_counts 34 = .ok (.iconst 1, 1) := by decide +kernel
theorem dX13_counts_35 : decode cX13_counts 35 = .ok (.iadd, 1) := by decide +kernel
theorem dX13_counts_36 : decode cX13_counts 36 = .ok (.invokevirtual 494, 3) := by decide +kernel
theorem dX13_counts_39 : decode cX13_counts 39 = .ok (.return_, 1) := by decide +kernel
def pX13_counts (g : MT) (h : CT) (this : Nat) (p1 : Int32) (p2 : Int32) : Option CT := tg g this 12 (lt (hR h this 20) fun r1 => (bd (pX13_at g h this p1 5) fun x2 => (bd (pX13_bits g h this) fun x4 => (nn r1 fun a1 => (tg g a1 22 (ix (gL g a1) (96 + x2) (lt (sD h a1 (Int32.toNatClampNeg (96 + x2)) (fi2d x4)) fun h8 => (lt (sI h8 this 30 (pJ9_max_7cf53 (hI h8 this 30) p2)) fun h9 => (bd (pX13_ends g h9 this p1 (p2 + 1)) fun h10 => (some h10))))))))))
set_option maxRecDepth 10000 in
set_option maxHeartbeats 4000000 in
theorem pX13_counts_ok (G : Gx) (dk : Nat) (hK : 3 ≤ dk) {g : MT} {h h0 : CT} {this : Nat} {p1 : Int32} {p2 : Int32} (hf : pX13_counts g h this p1 p2 = some h0) : Ctr G dk yX13_counts cX13_counts 3 none [va_rf (some this), .int p1, .int p2] g h none g h0 := by
  refine Ctr.ofZ (lv := [(0, va_rf (some this)), (1, .int p1), (2, .int p2)]) (by decide +kernel) (by simp [cat_i, cat_l, cat_d, cat_rf]) rfl fun X Z => ?_
  unfold pX13_counts at hf
  obtain ⟨t0, hf⟩ := tg_i hf
  refine J_aload_n Z.1 0 dX13_counts_0 rfl rfl ?_
  refine J_get (v := va_rf (hR h this 20)) Z.1 dX13_counts_1 fl_X13_34 t0 rfl ?_
  refine J_tr (fun r1 er1 => ?_)
  replace hf := lt_i hf r1 er1
  refine J_bipush Z.1 (v := 96) (by decide) dX13_counts_4 ?_
  refine J_aload_n Z.1 0 dX13_counts_6 rfl rfl ?_
  refine J_iload_n Z.1 1 dX13_counts_7 rfl rfl ?_
  refine J_iconst Z.1 (v := 5) (by decide) dX13_counts_8 ?_
  obtain ⟨x2, q3, hf⟩ := bd_i hf
  refine J_callV (ci := 11) (as := [.int p1, .int 5]) (rest := [.int 96, va_rf r1]) (sy := [.int x2, .int 96, va_rf r1]) Z.1 dX13_counts_9 cw_X13_381 (pX13_at_ok G (dk - 1) (by omega) q3) rfl rfl t0 (zG Z) rfl (by simp [cat_i, cat_l, cat_d, cat_rf]) (zF Z (by omega)) (zO Z (by omega) (by decide)) (zM _) Z.2.1 Z.2.1 rfl rfl ?_
  refine J_iadd Z.1 dX13_counts_12 ?_
  refine J_aload_n Z.1 0 dX13_counts_13 rfl rfl ?_
  obtain ⟨x4, q5, hf⟩ := bd_i hf
  refine J_callV (ci := 11) (as := []) (rest := [.int (96 + x2), va_rf r1]) (sy := [.int x4, .int (96 + x2), va_rf r1]) Z.1 dX13_counts_14 cw_X13_497 (pX13_bits_ok G (dk - 1) (by omega) q5) rfl rfl t0 (zG Z) rfl (by simp [cat_i, cat_l, cat_d, cat_rf]) (zF Z (by omega)) (zO Z (by omega) (by decide)) (zM _) Z.2.1 Z.2.1 rfl rfl ?_
  refine J_i2d Z.1 dX13_counts_17 ?_
  obtain ⟨a1, rfl, hf⟩ := nn_i hf
  obtain ⟨t6, hf⟩ := tg_i hf
  obtain ⟨i7, hf⟩ := ix_i hf
  refine J_dastore Z.1 dX13_counts_18 t6 i7 ?_
  refine J_th (fun h8 eh8 => ?_)
  replace hf := lt_i hf h8 eh8
  refine J_aload_n Z.1 0 dX13_counts_19 rfl rfl ?_
  refine J_aload_n Z.1 0 dX13_counts_20 rfl rfl ?_
  refine J_get (v := .int (hI h8 this 30)) Z.1 dX13_counts_21 fl_X13_407 t0 rfl ?_
  refine J_iload_n Z.1 2 dX13_counts_24 rfl rfl ?_
  refine J_callS (as := [.int (hI h8 this 30), .int p2]) (rest := [va_rf (some this)]) (sy := [.int (pJ9_max_7cf53 (hI h8 this 30) p2), va_rf (some this)]) Z.1 dX13_counts_25 cw_X13_178 (pJ9_max_7cf53_ok G (dk - 1) (by omega) g h8 (hI h8 this 30) p2) (zG Z) rfl (by simp [cat_i, cat_l, cat_d, cat_rf]) (zF Z (by omega)) (zO Z (by omega) (by decide)) (zM _) Z.2.1 Z.2.1 rfl rfl ?_
  refine J_putI Z.1 dX13_counts_28 fl_X13_407 (fun q => by cases q) t0 rfl rfl (congrArg Value.int (hI_s _ _ _ _)) ?_
  refine J_th (fun h9 eh9 => ?_)
  replace hf := lt_i hf h9 eh9
  refine J_aload_n Z.1 0 dX13_counts_31 rfl rfl ?_
  refine J_iload_n Z.1 1 dX13_counts_32 rfl rfl ?_
  refine J_iload_n Z.1 2 dX13_counts_33 rfl rfl ?_
  refine J_iconst Z.1 (v := 1) (by decide) dX13_counts_34 ?_
  refine J_iadd Z.1 dX13_counts_35 ?_
  obtain ⟨h10, q11, hf⟩ := bd_i hf
  refine J_callV (ci := 11) (as := [.int p1, .int (p2 + 1)]) (rest := []) (sy := []) Z.1 dX13_counts_36 cw_X13_494 (pX13_ends_ok G (dk - 1) (by omega) q11) rfl rfl t0 (zG Z) rfl (by decide) (zF Z (by omega)) (zO Z (by omega) (by decide)) (zM _) Z.2.1 Z.2.1 rfl rfl ?_
  cases hf
  exact J_vret Z.1 Z.2.2.2.2.2 dX13_counts_39
theorem dX13_flips_0 : decode cX13_flips 0 = .ok (.aload_n 0, 1) := by decide +kernel
theorem dX13_flips_1 : decode cX13_flips 1 = .ok (.getfield 31, 3) := by decide +kernel
theorem dX13_flips_4 : decode cX13_flips 4 = .ok (.iconst 3, 1) := by decide +kernel
theorem dX13_flips_5 : decode cX13_flips 5 = .ok (.dup2, 1) := by decide +kernel
theorem dX13_flips_6 : decode cX13_flips 6 = .ok (.iaload, 1) := by decide +kernel
theorem dX13_flips_7 : decode cX13_flips 7 = .ok (.iconst 1, 1) := by decide +kernel
theorem dX13_flips_8 : decode cX13_flips 8 = .ok (.aload_n 0, 1) := by decide +kernel
theorem dX13_flips_9 : decode cX13_flips 9 = .ok (.getfield 31, 3) := by decide +kernel
theorem dX13_flips_12 : decode cX13_flips 12 = .ok (.iconst 0, 1) := by decide +kernel
theorem dX13_flips_13 : decode cX13_flips 13 = .ok (.iaload, 1) := by decide +kernel
theorem dX13_flips_14 : decode cX13_flips 14 = .ok (.ishl, 1) := by decide +kernel
theorem dX13_flips_15 : decode cX13_flips 15 = .ok (.iconst 1, 1) := by decide +kernel
theorem dX13_flips_16 : decode cX13_flips 16 = .ok (.isub, 1) := by decide +kernel
theorem dX13_flips_17 : decode cX13_flips 17 = .ok (.ixor, 1) := by decide +kernel
theorem dX13_flips_18 : decode cX13_flips 18 = .ok (.iastore, 1) := by decide +kernel
theorem dX13_flips_19 : decode cX13_flips 19 = .ok (.aload_n 0, 1) := by decide +kernel
theorem dX13_flips_20 : decode cX13_flips 20 = .ok (.aload_n 0, 1) := by decide +kernel
theorem dX13_flips_21 : decode cX13_flips 21 = .ok (.getfield 407, 3) := by decide +kernel
theorem dX13_flips_24 : decode cX13_flips 24 = .ok (.iload_n 1, 1) := by decide +kernel
theorem dX13_flips_25 : decode cX13_flips 25 = .ok (.invokestatic 178, 3) := by decide +kernel
theorem dX13_flips_28 : decode cX13_flips 28 = .ok (.putfield 407, 3) := by decide +kernel
theorem dX13_flips_31 : decode cX13_flips 31 = .ok (.aload_n 0, 1) := by decide +kernel
theorem dX13_flips_32 : decode cX13_flips 32 = .ok (.iload_n 1, 1) := by decide +kernel
theorem dX13_flips_33 : decode cX13_flips 33 = .ok (.iconst 1, 1) := by decide +kernel
theorem dX13_flips_34 : decode cX13_flips 34 = .ok (.iadd, 1) := by decide +kernel
theorem dX13_flips_35 : decode cX13_flips 35 = .ok (.putfield 404, 3) := by decide +kernel
theorem dX13_flips_38 : decode cX13_flips 38 = .ok (.aload_n 0, 1) := by decide +kernel
theorem dX13_flips_39 : decode cX13_flips 39 = .ok (.aload_n 0, 1) := by decide +kernel
theorem dX13_flips_40 : decode cX13_flips 40 = .ok (.getfield 404, 3) := by decide +kernel
theorem dX13_flips_43 : decode cX13_flips 43 = .ok (.invokevirtual 478, 3) := by decide +kernel
theorem dX13_flips_46 : decode cX13_flips 46 = .ok (.return_, 1) := by decide +kernel
def pX13_flips (g : MT) (h : CT) (this : Nat) (p1 : Int32) : Option CT := tg g this 12 (lt (hR h this 19) fun r1 => (nn r1 fun a1 => (tg g a1 20 (ix (gL g a1) 3 (lt (hR h this 19) fun r4 => (nn r4 fun a4 => (tg g a4 20 (ix (gL g a4) 0 (ix (gL g a1) 3 (lt (sI h a1 (Int32.toNatClampNeg 3) ((hI h a1 (Int32.toNatClampNeg 3)) ^^^ (((1 : Int32) <<< ((hI h a4 (Int32.toNatClampNeg 0)) &&& 31)) - 1))) fun h8 => (lt (sI h8 this 30 (pJ9_max_7cf53 (hI h8 this 30) p1)) fun h9 => (lt (sI h9 this 29 (p1 + 1)) fun h10 => (bd (pX13_lasts g h10 this (hI h10 this 29)) fun h11 => (some h11))))))))))))))
set_option maxRecDepth 10000 in
set_option maxHeartbeats 4000000 in
theorem pX13_flips_ok (G : Gx) (dk : Nat) (hK : 2 ≤ dk) {g : MT} {h h0 : CT} {this : Nat} {p1 : Int32} (hf : pX13_flips g h this p1 = some h0) : Ctr G dk yX13_flips cX13_flips 2 none [va_rf (some this), .int p1] g h none g h0 := by
  refine Ctr.ofZ (lv := [(0, va_rf (some this)), (1, .int p1)]) (by decide +kernel) (by simp [cat_i, cat_l, cat_d, cat_rf]) rfl fun X Z => ?_
  unfold pX13_flips at hf
  obtain ⟨t0, hf⟩ := tg_i hf
  refine J_aload_n Z.1 0 dX13_flips_0 rfl rfl ?_
  refine J_get (v := va_rf (hR h this 19)) Z.1 dX13_flips_1 fl_X13_31 t0 rfl ?_
  refine J_tr (fun r1 er1 => ?_)
  replace hf := lt_i hf r1 er1
  refine J_iconst Z.1 (v := 3) (by decide) dX13_flips_4 ?_
  refine J_dup2 Z.1 dX13_flips_5 (by simp [cat_i, cat_l, cat_d, cat_rf]) (by simp [cat_i, cat_l, cat_d, cat_rf]) ?_
  obtain ⟨a1, rfl, hf⟩ := nn_i hf
  obtain ⟨t2, hf⟩ := tg_i hf
  obtain ⟨i3, hf⟩ := ix_i hf
  refine J_iaload Z.1 dX13_flips_6 t2 i3 ?_
  refine J_iconst Z.1 (v := 1) (by decide) dX13_flips_7 ?_
  refine J_aload_n Z.1 0 dX13_flips_8 rfl rfl ?_
  refine J_get (v := va_rf (hR h this 19)) Z.1 dX13_flips_9 fl_X13_31 t0 rfl ?_
  refine J_tr (fun r4 er4 => ?_)
  replace hf := lt_i hf r4 er4
  refine J_iconst Z.1 (v := 0) (by decide) dX13_flips_12 ?_
  obtain ⟨a4, rfl, hf⟩ := nn_i hf
  obtain ⟨t5, hf⟩ := tg_i hf
  obtain ⟨i6, hf⟩ := ix_i hf
  refine J_iaload Z.1 dX13_flips_13 t5 i6 ?_
  refine J_ishl Z.1 dX13_flips_14 ?_
  refine J_iconst Z.1 (v := 1) (by decide) dX13_flips_15 ?_
  refine J_isub Z.1 dX13_flips_16 ?_
  refine J_ixor Z.1 dX13_flips_17 ?_
  obtain ⟨i7, hf⟩ := ix_i hf
  refine J_iastore Z.1 dX13_flips_18 t2 i7 ?_
  refine J_th (fun h8 eh8 => ?_)
  replace hf := lt_i hf h8 eh8
  refine J_aload_n Z.1 0 dX13_flips_19 rfl rfl ?_
  refine J_aload_n Z.1 0 dX13_flips_20 rfl rfl ?_
  refine J_get (v := .int (hI h8 this 30)) Z.1 dX13_flips_21 fl_X13_407 t0 rfl ?_
  refine J_iload_n Z.1 1 dX13_flips_24 rfl rfl ?_
  refine J_callS (as := [.int (hI h8 this 30), .int p1]) (rest := [va_rf (some this)]) (sy := [.int (pJ9_max_7cf53 (hI h8 this 30) p1), va_rf (some this)]) Z.1 dX13_flips_25 cw_X13_178 (pJ9_max_7cf53_ok G (dk - 1) (by omega) g h8 (hI h8 this 30) p1) (zG Z) rfl (by simp [cat_i, cat_l, cat_d, cat_rf]) (zF Z (by omega)) (zO Z (by omega) (by decide)) (zM _) Z.2.1 Z.2.1 rfl rfl ?_
  refine J_putI Z.1 dX13_flips_28 fl_X13_407 (fun q => by cases q) t0 rfl rfl (congrArg Value.int (hI_s _ _ _ _)) ?_
  refine J_th (fun h9 eh9 => ?_)
  replace hf := lt_i hf h9 eh9
  refine J_aload_n Z.1 0 dX13_flips_31 rfl rfl ?_
  refine J_iload_n Z.1 1 dX13_flips_32 rfl rfl ?_
  refine J_iconst Z.1 (v := 1) (by decide) dX13_flips_33 ?_
  refine J_iadd Z.1 dX13_flips_34 ?_
  refine J_putI Z.1 dX13_flips_35 fl_X13_404 (fun q => by cases q) t0 rfl rfl (congrArg Value.int (hI_s _ _ _ _)) ?_
  refine J_th (fun h10 eh10 => ?_)
  replace hf := lt_i hf h10 eh10
  refine J_aload_n Z.1 0 dX13_flips_38 rfl rfl ?_
  refine J_aload_n Z.1 0 dX13_flips_39 rfl rfl ?_
  refine J_get (v := .int (hI h10 this 29)) Z.1 dX13_flips_40 fl_X13_404 t0 rfl ?_
  obtain ⟨h11, q12, hf⟩ := bd_i hf
  refine J_callV (ci := 11) (as := [.int (hI h10 this 29)]) (rest := []) (sy := []) Z.1 dX13_flips_43 cw_X13_478 (pX13_lasts_ok G (dk - 1) (by omega) q12) rfl rfl t0 (zG Z) rfl (by decide) (zF Z (by omega)) (zO Z (by omega) (by decide)) (zM _) Z.2.1 Z.2.1 rfl rfl ?_
  cases hf
  exact J_vret Z.1 Z.2.2.2.2.2 dX13_flips_46
theorem dX13_begins_0 : decode cX13_begins 0 = .ok (.aload_n 0, 1) := by decide +kernel
theorem dX13_begins_1 : decode cX13_begins 1 = .ok (.iload_n 1, 1) := by decide +kernel
theorem dX13_begins_2 : decode cX13_begins 2 = .ok (.putfield 398, 3) := by decide +kernel
theorem dX13_begins_5 : decode cX13_begins 5 = .ok (.aload_n 0, 1) := by decide +kernel
theorem dX13_begins_6 : decode cX13_begins 6 = .ok (.iload_n 1, 1) := by decide +kernel
theorem dX13_begins_7 : decode cX13_begins 7 = .ok (.invokevirtual 478, 3) := by decide +kernel
theorem dX13_begins_10 : decode cX13_begins 10 = .ok (.return_, 1) := by decide +kernel
def pX13_begins (g : MT) (h : CT) (this : Nat) (p1 : Int32) : Option CT := tg g this 12 (lt (sI h this 32 p1) fun h1 => (bd (pX13_lasts g h1 this p1) fun h2 => (some h2)))
set_option maxRecDepth 10000 in
set_option maxHeartbeats 4000000 in
theorem pX13_begins_ok (G : Gx) (dk : Nat) (hK : 2 ≤ dk) {g : MT} {h h0 : CT} {this : Nat} {p1 : Int32} (hf : pX13_begins g h this p1 = some h0) : Ctr G dk yX13_begins cX13_begins 2 none [va_rf (some this), .int p1] g h none g h0 := by
  refine Ctr.ofZ (lv := [(0, va_rf (some this)), (1, .int p1)]) (by decide +kernel) (by simp [cat_i, cat_l, cat_d, cat_rf]) rfl fun X Z => ?_
  unfold pX13_begins at hf
  obtain ⟨t0, hf⟩ := tg_i hf
  refine J_aload_n Z.1 0 dX13_begins_0 rfl rfl ?_
  refine J_iload_n Z.1 1 dX13_begins_1 rfl rfl ?_
  refine J_putI Z.1 dX13_begins_2 fl_X13_398 (fun q => by cases q) t0 rfl rfl (congrArg Value.int (hI_s _ _ _ _)) ?_
  refine J_th (fun h1 eh1 => ?_)
  replace hf := lt_i hf h1 eh1
  refine J_aload_n Z.1 0 dX13_begins_5 rfl rfl ?_
  refine J_iload_n Z.1 1 dX13_begins_6 rfl rfl ?_
  obtain ⟨h2, q3, hf⟩ := bd_i hf
  refine J_callV (ci := 11) (as := [.int p1]) (rest := []) (sy := []) Z.1 dX13_begins_7 cw_X13_478 (pX13_lasts_ok G (dk - 1) (by omega) q3) rfl rfl t0 (zG Z) rfl (by decide) (zF Z (by omega)) (zO Z (by omega) (by decide)) (zM _) Z.2.1 Z.2.1 rfl rfl ?_
  cases hf
  exact J_vret Z.1 Z.2.2.2.2.2 dX13_begins_10
theorem dX13_answer_0 : decode cX13_answer 0 = .ok (.iload_n 1, 1) := by decide +kernel
theorem dX13_answer_1 : decode cX13_answer 1 = .ok (.ifCond .ge 12, 3) := by decide +kernel
theorem dX13_answer_4 : decode cX13_answer 4 = .ok (.aload_n 0, 1) := by decide +kernel
theorem dX13_answer_5 : decode cX13_answer 5 = .ok (.bipush 8, 2) := by decide +kernel
theorem dX13_answer_7 : decode cX13_answer 7 = .ok (.invokevirtual 268, 3) := by decide +kernel
theorem dX13_answer_10 : decode cX13_answer 10 = .ok (.goto 4, 3) := by decide +kernel
theorem dX13_answer_13 : decode cX13_answer 13 = .ok (.iload_n 1, 1) := by decide +kernel
theorem dX13_answer_14 : decode cX13_answer 14 = .ok (.ireturn, 1) := by decide +kernel
def pX13_answer (g : MT) (h : CT) (this : Nat) (p1 : Int32) : Option ((Int32) × CT) := tg g this 12 (if 0 ≤ p1 then some (p1, h) else bd2 (pX13_refuse g h this 8) fun x4 h2 => (some (x4, h2)))
set_option maxRecDepth 10000 in
set_option maxHeartbeats 4000000 in
theorem pX13_answer_ok (G : Gx) (dk : Nat) (hK : 1 ≤ dk) {g : MT} {h h0 : CT} {this : Nat} {p1 : Int32} {r0 : Int32} (hf : pX13_answer g h this p1 = some (r0, h0)) : Ctr G dk yX13_answer cX13_answer 2 (some .int) [va_rf (some this), .int p1] g h (some (.int r0)) g h0 := by
  refine Ctr.ofZ (lv := [(0, va_rf (some this)), (1, .int p1)]) (by decide +kernel) (by simp [cat_i, cat_l, cat_d, cat_rf]) rfl fun X Z => ?_
  unfold pX13_answer at hf
  obtain ⟨t0, hf⟩ := tg_i hf
  refine J_iload_n Z.1 1 dX13_answer_0 rfl rfl ?_
  refine J_if_ge Z.1 13 dX13_answer_1 (by decide) (fun c1 => ?_) (fun c1 => ?_)
  · rw [if_pos c1] at hf
    refine J_iload_n Z.1 1 dX13_answer_13 rfl rfl ?_
    cases hf
    exact J_iret Z.1 Z.2.2.2.2.2 dX13_answer_14
  · rw [if_neg c1] at hf
    refine J_aload_n Z.1 0 dX13_answer_4 rfl rfl ?_
    refine J_bipush Z.1 (v := 8) (by decide) dX13_answer_5 ?_
    obtain ⟨x4, h2, q3, hf⟩ := bd2_i hf
    refine J_callV (ci := 11) (as := [.int 8]) (rest := []) (sy := [.int x4]) Z.1 dX13_answer_7 cw_X13_268 (pX13_refuse_ok G (dk - 1) (by omega) q3) rfl rfl t0 (zG Z) rfl (by decide) (zF Z (by omega)) (zO Z (by omega) (by decide)) (zM _) Z.2.1 Z.2.1 rfl rfl ?_
    refine J_goto Z.1 14 dX13_answer_10 (by decide) ?_
    cases hf
    exact J_iret Z.1 Z.2.2.2.2.2 dX13_answer_14
theorem dX13_ran_0 : decode cX13_ran 0 = .ok (.aload_n 0, 1) := by decide +kernel
theorem dX13_ran_1 : decode cX13_ran 1 = .ok (.iconst 0, 1) := by decide +kernel
theorem dX13_ran_2 : decode cX13_ran 2 = .ok (.putfield 71, 3) := by decide +kernel
theorem dX13_ran_5 : decode cX13_ran 5 = .ok (.aload_n 0, 1) := by decide +kernel
theorem dX13_ran_6 : decode cX13_ran 6 = .ok (.iconst 0, 1) := by decide +kernel
theorem dX13_ran_7 : decode cX13_ran 7 = .ok (.putfield 74, 3) := by decide +kernel
theorem dX13_ran_10 : decode cX13_ran 10 = .ok (.iload_n 1, 1) := by decide +kernel
theorem dX13_ran_11 : decode cX13_ran 11 = .ok (.i2l, 1) := by decide +kernel
theorem dX13_ran_12 : decode cX13_ran 12 = .ok (.lconst 0, 1) := by decide +kernel
theorem dX13_ran_13 : decode cX13_ran 13 = .ok (.ldc2_w 275, 3) := by decide +kernel
theorem dX13_ran_16 : decode cX13_ran 16 = .ok (.invokestatic 104, 3) := by decide +kernel
theorem dX13_ran_19 : decode cX13_ran 19 = .ok (.ifCond .ne 9, 3) := by decide +kernel
theorem dX13_ran_22 : decode cX13_ran 22 = .ok (.aload_n 0, 1) := by decide +kernel
theorem dX13_ran_23 : decode cX13_ran 23 = .ok (.iconst 5, 1) := by decide +kernel
theorem dX13_ran_24 : decode cX13_ran 24 = .ok (.invokevirtual 268, 3) := by decide +kernel
theorem dX13_ran_27 : decode cX13_ran 27 = .ok (.ireturn, 1) := by decide +kernel
theorem dX13_ran_28 : decode cX13_ran 28 = .ok (.aload_n 0, 1) := by decide +kernel
theorem dX13_ran_29 : decode cX13_ran 29 = .ok (.getfield 538, 3) := by decide +kernel
theorem dX13_ran_32 : decode cX13_ran 32 = .ok (.ifCond .eq 16, 3) := by decide +kernel
theorem dX13_ran_35 : decode cX13_ran 35 = .ok (.aload_n 0, 1) := by decide +kernel
theorem dX13_ran_36 : decode cX13_ran 36 = .ok (.aload_n 0, 1) := by decide +kernel
theorem dX13_ran_37 : decode cX13_ran 37 = .ok (.getfield 59, 3) := by decide +kernel
theorem dX13_ran_40 : decode cX13_ran 40 = .ok (.iload_n 1, 1) := by decide +kernel
theorem dX13_ran_41 : decode cX13_ran 41 = .ok (.iaload, 1) := by decide +kernel
theorem dX13_ran_42 : decode cX13_ran 42 = .ok (.invokevirtual 541, 3) := by decide +kernel
theorem dX13_ran_45 : decode cX13_ran 45 = .ok (.goto 9, 3) := by decide +kernel
theorem dX13_ran_48 : decode cX13_ran 48 = .ok (.aload_n 0, 1) := by decide +kernel
theorem dX13_ran_49 : decode cX13_ran 49 = .ok (.bipush 8, 2) := by decide +kernel
theorem dX13_ran_51 : decode cX13_ran 51 = .ok (.invokevirtual 268, 3) := by decide +kernel
theorem dX13_ran_54 : decode cX13_ran 54 = .ok (.ireturn, 1) := by decide +kernel
def pX13_ran (g : MT) (h : CT) (this : Nat) (p1 : Int32) : Option ((Int32) × CT) := tg g this 12 (lt (sI h this 1 0) fun h1 => (lt (sI h1 this 0 0) fun h2 => (if (pX13_isIn (Int32.toInt64 p1) 0 5) = 0 then bd2 (pX13_refuse g h2 this 5) fun x16 h14 => (some (x16, h14)) else if (hI h2 this 41) = 0 then bd2 (pX13_refuse g h2 this 8) fun x7 h5 => (some (x7, h5)) else lt (hR h2 this 45) fun r8 => (nn r8 fun a8 => (tg g a8 20 (ix (gL g a8) p1 (bd2 (pX13_answer g h2 this (hI h2 a8 (Int32.toNatClampNeg p1))) fun x13 h11 => (some (x13, h11)))))))))
set_option maxRecDepth 10000 in
set_option maxHeartbeats 4000000 in
theorem pX13_ran_ok (G : Gx) (dk : Nat) (hK : 2 ≤ dk) {g : MT} {h h0 : CT} {this : Nat} {p1 : Int32} {r0 : Int32} (hf : pX13_ran g h this p1 = some (r0, h0)) : Ctr G dk yX13_ran cX13_ran 2 (some .int) [va_rf (some this), .int p1] g h (some (.int r0)) g h0 := by
  refine Ctr.ofZ (lv := [(0, va_rf (some this)), (1, .int p1)]) (by decide +kernel) (by simp [cat_i, cat_l, cat_d, cat_rf]) rfl fun X Z => ?_
  unfold pX13_ran at hf
  obtain ⟨t0, hf⟩ := tg_i hf
  refine J_aload_n Z.1 0 dX13_ran_0 rfl rfl ?_
  refine J_iconst Z.1 (v := 0) (by decide) dX13_ran_1 ?_
  refine J_putI Z.1 dX13_ran_2 fl_X13_71 (fun q => by cases q) t0 rfl rfl (congrArg Value.int (hI_s _ _ _ _)) ?_
  refine J_th (fun h1 eh1 => ?_)
  replace hf := lt_i hf h1 eh1
  refine J_aload_n Z.1 0 dX13_ran_5 rfl rfl ?_
  refine J_iconst Z.1 (v := 0) (by decide) dX13_ran_6 ?_
  refine J_putI Z.1 dX13_ran_7 fl_X13_74 (fun q => by cases q) t0 rfl rfl (congrArg Value.int (hI_s _ _ _ _)) ?_
  refine J_th (fun h2 eh2 => ?_)
  replace hf := lt_i hf h2 eh2
  refine J_iload_n Z.1 1 dX13_ran_10 rfl rfl ?_
  refine J_i2l Z.1 dX13_ran_11 ?_
  refine J_lconst Z.1 (v := 0) (by decide) dX13_ran_12 ?_
  refine J_ldc2 Z.1 q_1749 dX13_ran_13 ?_
  refine J_callS (as := [.long (Int32.toInt64 p1), .long 0, .long 5]) (rest := []) (sy := [.int (pX13_isIn (Int32.toInt64 p1) 0 5)]) Z.1 dX13_ran_16 cw_X13_104 (pX13_isIn_ok G (dk - 1) (by omega) g h2 (Int32.toInt64 p1) 0 5) (zG Z) rfl (by decide) (zF Z (by omega)) (zO Z (by omega) (by decide)) (zM _) Z.2.1 Z.2.1 rfl rfl ?_
  refine J_if_ne Z.1 28 dX13_ran_19 (by decide) (fun c3 => ?_) (fun c3 => ?_)
  · rw [if_neg c3] at hf
    refine J_aload_n Z.1 0 dX13_ran_28 rfl rfl ?_
    refine J_get (v := .int (hI h2 this 41)) Z.1 dX13_ran_29 fl_X13_538 t0 rfl ?_
    refine J_if_eq Z.1 48 dX13_ran_32 (by decide) (fun c4 => ?_) (fun c4 => ?_)
    · rw [if_pos c4] at hf
      refine J_aload_n Z.1 0 dX13_ran_48 rfl rfl ?_
      refine J_bipush Z.1 (v := 8) (by decide) dX13_ran_49 ?_
      obtain ⟨x7, h5, q6, hf⟩ := bd2_i hf
      refine J_callV (ci := 11) (as := [.int 8]) (rest := []) (sy := [.int x7]) Z.1 dX13_ran_51 cw_X13_268 (pX13_refuse_ok G (dk - 1) (by omega) q6) rfl rfl t0 (zG Z) rfl (by decide) (zF Z (by omega)) (zO Z (by omega) (by decide)) (zM _) Z.2.1 Z.2.1 rfl rfl ?_
      cases hf
      exact J_iret Z.1 Z.2.2.2.2.2 dX13_ran_54
    · rw [if_neg c4] at hf
      refine J_aload_n Z.1 0 dX13_ran_35 rfl rfl ?_
      refine J_aload_n Z.1 0 dX13_ran_36 rfl rfl ?_
      refine J_get (v := va_rf (hR h2 this 45)) Z.1 dX13_ran_37 fl_X13_59 t0 rfl ?_
      refine J_tr (fun r8 er8 => ?_)
      replace hf := lt_i hf r8 er8
      refine J_iload_n Z.1 1 dX13_ran_40 rfl rfl ?_
      obtain ⟨a8, rfl, hf⟩ := nn_i hf
      obtain ⟨t9, hf⟩ := tg_i hf
      obtain ⟨i10, hf⟩ := ix_i hf
      refine J_iaload Z.1 dX13_ran_41 t9 i10 ?_
      obtain ⟨x13, h11, q12, hf⟩ := bd2_i hf
      refine J_callV (ci := 11) (as := [.int (hI h2 a8 (Int32.toNatClampNeg p1))]) (rest := []) (sy := [.int x13]) Z.1 dX13_ran_42 cw_X13_541 (pX13_answer_ok G (dk - 1) (by omega) q12) rfl rfl t0 (zG Z) rfl (by decide) (zF Z (by omega)) (zO Z (by omega) (by decide)) (zM _) Z.2.1 Z.2.1 rfl rfl ?_
      refine J_goto Z.1 54 dX13_ran_45 (by decide) ?_
      cases hf
      exact J_iret Z.1 Z.2.2.2.2.2 dX13_ran_54
  · rw [if_pos c3] at hf
    refine J_aload_n Z.1 0 dX13_ran_22 rfl rfl ?_
    refine J_iconst Z.1 (v := 5) (by decide) dX13_ran_23 ?_
    obtain ⟨x16, h14, q15, hf⟩ := bd2_i hf
    refine J_callV (ci := 11) (as := [.int 5]) (rest := []) (sy := [.int x16]) Z.1 dX13_ran_24 cw_X13_268 (pX13_refuse_ok G (dk - 1) (by omega) q15) rfl rfl t0 (zG Z) rfl (by decide) (zF Z (by omega)) (zO Z (by omega) (by decide)) (zM _) Z.2.1 Z.2.1 rfl rfl ?_
    cases hf
    exact J_iret Z.1 Z.2.2.2.2.2 dX13_ran_27
theorem dX13_time_0 : decode cX13_time 0 = .ok (.aload_n 0, 1) := by decide +kernel
theorem dX13_time_1 : decode cX13_time 1 = .ok (.iconst 0, 1) := by decide +kernel
theorem dX13_time_2 : decode cX13_time 2 = .ok (.putfield 71, 3) := by decide +kernel
theorem dX13_time_5 : decode cX13_time 5 = .ok (.aload_n 0, 1) := by decide +kernel
theorem dX13_time_6 : decode cX13_time 6 = .ok (.iconst 0, 1) := by decide +kernel
theorem dX13_time_7 : decode cX13_time 7 = .ok (.putfield 74, 3) := by decide +kernel
theorem dX13_time_10 : decode cX13_time 10 = .ok (.aload_n 0, 1) := by decide +kernel
theorem dX13_time_11 : decode cX13_time 11 = .ok (.iload_n 1, 1) := by decide +kernel
theorem dX13_time_12 : decode cX13_time 12 = .ok (.invokevirtual 544, 3) := by decide +kernel
theorem dX13_time_15 : decode cX13_time 15 = .ok (.ifCond .ne 9, 3) := by decide +kernel
theorem dX13_time_18 : decode cX13_time 18 = .ok (.aload_n 0, 1) := by decide +kernel
theorem dX13_time_19 : decode cX13_time 19 = .ok (.iconst 2, 1) := by decide +kernel
theorem dX13_time_20 : decode cX13_time 20 = .ok (.invokevirtual 268, 3) := by decide +kernel
theorem dX13_time_23 : decode cX13_time 23 = .ok (.ireturn, 1) := by decide +kernel
theorem dX13_time_24 : decode cX13_time 24 = .ok (.iload_n 2, 1) := by decide +kernel
theorem dX13_time_25 : decode cX13_time 25 = .ok (.i2l, 1) := by decide +kernel
theorem dX13_time_26 : decode cX13_time 26 = .ok (.lconst 0, 1) := by decide +kernel
theorem dX13_time_27 : decode cX13_time 27 = .ok (.lconst 1, 1) := by decide +kernel
theorem dX13_time_28 : decode cX13_time 28 = .ok (.invokestatic 104, 3) := by decide +kernel
theorem dX13_time_31 : decode cX13_time 31 = .ok (.ifCond .ne 9, 3) := by decide +kernel
theorem dX13_time_34 : decode cX13_time 34 = .ok (.aload_n 0, 1) := by decide +kernel
theorem dX13_time_35 : decode cX13_time 35 = .ok (.iconst 5, 1) := by decide +kernel
theorem dX13_time_36 : decode cX13_time 36 = .ok (.invokevirtual 268, 3) := by decide +kernel
theorem dX13_time_39 : decode cX13_time 39 = .ok (.ireturn, 1) := by decide +kernel
theorem dX13_time_40 : decode cX13_time 40 = .ok (.aload_n 0, 1) := by decide +kernel
theorem dX13_time_41 : decode cX13_time 41 = .ok (.getfield 271, 3) := by decide +kernel
theorem dX13_time_44 : decode cX13_time 44 = .ok (.ifCond .eq 12, 3) := by decide +kernel
theorem dX13_time_47 : decode cX13_time 47 = .ok (.aload_n 0, 1) := by decide +kernel
theorem dX13_time_48 : decode cX13_time 48 = .ok (.getfield 62, 3) := by decide +kernel
theorem dX13_time_51 : decode cX13_time 51 = .ok (.iload_n 1, 1) := by decide +kernel
theorem dX13_time_52 : decode cX13_time 52 = .ok (.iaload, 1) := by decide +kernel
theorem dX13_time_53 : decode cX13_time 53 = .ok (.ifCond .ge 10, 3) := by decide +kernel
theorem dX13_time_56 : decode cX13_time 56 = .ok (.aload_n 0, 1) := by decide +kernel
theorem dX13_time_57 : decode cX13_time 57 = .ok (.bipush 8, 2) := by decide +kernel
theorem dX13_time_59 : decode cX13_time 59 = .ok (.invokevirtual 268, 3) := by decide +kernel
theorem dX13_time_62 : decode cX13_time 62 = .ok (.ireturn, 1) := by decide +kernel
theorem dX13_time_63 : decode cX13_time 63 = .ok (.iload_n 2, 1) := by decide +kernel
theorem dX13_time_64 : decode cX13_time 64 = .ok (.ifCond .ne 12, 3) := by decide +kernel
theorem dX13_time_67 : decode cX13_time 67 = .ok (.aload_n 0, 1) := by decide +kernel
theorem dX13_time_68 : decode cX13_time 68 = .ok (.getfield 62, 3) := by decide +kernel
theorem dX13_time_71 : decode cX13_time 71 = .ok (.iload_n 1, 1) := by decide +kernel
theorem dX13_time_72 : decode cX13_time 72 = .ok (.iaload, 1) := by decide +kernel
theorem dX13_time_73 : decode cX13_time 73 = .ok (.goto 13, 3) := by decide +kernel
theorem dX13_time_76 : decode cX13_time 76 = .ok (.aload_n 0, 1) := by decide +kernel
theorem dX13_time_77 : decode cX13_time 77 = .ok (.aload_n 0, 1) := by decide +kernel
theorem dX13_time_78 : decode cX13_time 78 = .ok (.getfield 65, 3) := by decide +kernel
theorem dX13_time_81 : decode cX13_time 81 = .ok (.iload_n 1, 1) := by decide +kernel
theorem dX13_time_82 : decode cX13_time 82 = .ok (.iaload, 1) := by decide +kernel
theorem dX13_time_83 : decode cX13_time 83 = .ok (.invokevirtual 541, 3) := by decide +kernel
theorem dX13_time_86 : decode cX13_time 86 = .ok (.ireturn, 1) := by decide +kernel
def pX13_time_b56 (g : MT) (this : Nat) (p1 : Int32) (p2 : Int32) (h : CT) : Option ((Int32) × CT) := bd2 (pX13_refuse g h this 8) fun x3 h1 => (some (x3, h1))
set_option maxRecDepth 10000 in
set_option maxHeartbeats 4000000 in
theorem pX13_time_b56_ok {X : Cx} {G : Gx} {dk : Nat} {g : MT} {r0 : Int32} {h0 : CT} {this : Nat} {p1 : Int32} {p2 : Int32} (Z : Zx X G cX13_time RX13 3 dk (some .int) (some (.int r0)) g h0) (hK : 2 ≤ dk) (t0 : gT g this = 12) (h : CT) (hf : pX13_time_b56 g this p1 p2 h = some (r0, h0)) : J X g h 56 [(0, va_rf (some this))] [] := by
  unfold pX13_time_b56 at hf
  refine J_aload_n Z.1 0 dX13_time_56 rfl rfl ?_
  refine J_bipush Z.1 (v := 8) (by decide) dX13_time_57 ?_
  obtain ⟨x3, h1, q2, hf⟩ := bd2_i hf
  refine J_callV (ci := 11) (as := [.int 8]) (rest := []) (sy := [.int x3]) Z.1 dX13_time_59 cw_X13_268 (pX13_refuse_ok G (dk - 1) (by omega) q2) rfl rfl t0 (zG Z) rfl (by decide) (zF Z (by omega)) (zO Z (by omega) (by decide)) (zM _) Z.2.1 Z.2.1 rfl rfl ?_
  cases hf
  exact J_iret Z.1 Z.2.2.2.2.2 dX13_time_62
def pX13_time (g : MT) (h : CT) (this : Nat) (p1 : Int32) (p2 : Int32) : Option ((Int32) × CT) := tg g this 12 (lt (sI h this 1 0) fun h1 => (lt (sI h1 this 0 0) fun h2 => (bd (pX13_isCode g h2 this p1) fun x3 => (if x3 = 0 then bd2 (pX13_refuse g h2 this 2) fun x27 h25 => (some (x27, h25)) else if (pX13_isIn (Int32.toInt64 p2) 0 1) = 0 then bd2 (pX13_refuse g h2 this 5) fun x24 h22 => (some (x24, h22)) else if (hI h2 this 22) = 0 then pX13_time_b56 g this p1 p2  h2 else lt (hR h2 this 46) fun r8 => (nn r8 fun a8 => (tg g a8 20 (ix (gL g a8) p1 (if 0 ≤ (hI h2 a8 (Int32.toNatClampNeg p1)) then if p2 = 0 then lt (hR h2 this 46) fun r19 => (nn r19 fun a19 => (tg g a19 20 (ix (gL g a19) p1 (some ((hI h2 a19 (Int32.toNatClampNeg p1)), h2))))) else lt (hR h2 this 47) fun r13 => (nn r13 fun a13 => (tg g a13 20 (ix (gL g a13) p1 (bd2 (pX13_answer g h2 this (hI h2 a13 (Int32.toNatClampNeg p1))) fun x18 h16 => (some (x18, h16)))))) else pX13_time_b56 g this p1 p2  h2))))))))
set_option maxRecDepth 10000 in
set_option maxHeartbeats 4000000 in
theorem pX13_time_ok (G : Gx) (dk : Nat) (hK : 2 ≤ dk) {g : MT} {h h0 : CT} {this : Nat} {p1 : Int32} {p2 : Int32} {r0 : Int32} (hf : pX13_time g h this p1 p2 = some (r0, h0)) : Ctr G dk yX13_time cX13_time 3 (some .int) [va_rf (some this), .int p1, .int p2] g h (some (.int r0)) g h0 := by
  refine Ctr.ofZ (lv := [(0, va_rf (some this)), (1, .int p1), (2, .int p2)]) (by decide +kernel) (by simp [cat_i, cat_l, cat_d, cat_rf]) rfl fun X Z => ?_
  unfold pX13_time at hf
  obtain ⟨t0, hf⟩ := tg_i hf
  refine J_aload_n Z.1 0 dX13_time_0 rfl rfl ?_
  refine J_iconst Z.1 (v := 0) (by decide) dX13_time_1 ?_
  refine J_putI Z.1 dX13_time_2 fl_X13_71 (fun q => by cases q) t0 rfl rfl (congrArg Value.int (hI_s _ _ _ _)) ?_
  refine J_th (fun h1 eh1 => ?_)
  replace hf := lt_i hf h1 eh1
  refine J_aload_n Z.1 0 dX13_time_5 rfl rfl ?_
  refine J_iconst Z.1 (v := 0) (by decide) dX13_time_6 ?_
  refine J_putI Z.1 dX13_time_7 fl_X13_74 (fun q => by cases q) t0 rfl rfl (congrArg Value.int (hI_s _ _ _ _)) ?_
  refine J_th (fun h2 eh2 => ?_)
  replace hf := lt_i hf h2 eh2
  refine J_aload_n Z.1 0 dX13_time_10 rfl rfl ?_
  refine J_iload_n Z.1 1 dX13_time_11 rfl rfl ?_
  obtain ⟨x3, q4, hf⟩ := bd_i hf
  refine J_callV (ci := 11) (as := [.int p1]) (rest := []) (sy := [.int x3]) Z.1 dX13_time_12 cw_X13_544 (pX13_isCode_ok G (dk - 1) (by omega) q4) rfl rfl t0 (zG Z) rfl (by decide) (zF Z (by omega)) (zO Z (by omega) (by decide)) (zM _) Z.2.1 Z.2.1 rfl rfl ?_
  refine J_if_ne Z.1 24 dX13_time_15 (by decide) (fun c5 => ?_) (fun c5 => ?_)
  · rw [if_neg c5] at hf
    refine J_iload_n Z.1 2 dX13_time_24 rfl rfl ?_
    refine J_i2l Z.1 dX13_time_25 ?_
    refine J_lconst Z.1 (v := 0) (by decide) dX13_time_26 ?_
    refine J_lconst Z.1 (v := 1) (by decide) dX13_time_27 ?_
    refine J_callS (as := [.long (Int32.toInt64 p2), .long 0, .long 1]) (rest := []) (sy := [.int (pX13_isIn (Int32.toInt64 p2) 0 1)]) Z.1 dX13_time_28 cw_X13_104 (pX13_isIn_ok G (dk - 1) (by omega) g h2 (Int32.toInt64 p2) 0 1) (zG Z) rfl (by decide) (zF Z (by omega)) (zO Z (by omega) (by decide)) (zM _) Z.2.1 Z.2.1 rfl rfl ?_
    refine J_if_ne Z.1 40 dX13_time_31 (by decide) (fun c6 => ?_) (fun c6 => ?_)
    · rw [if_neg c6] at hf
      refine J_aload_n Z.1 0 dX13_time_40 rfl rfl ?_
      refine J_get (v := .int (hI h2 this 22)) Z.1 dX13_time_41 fl_X13_271 t0 rfl ?_
      refine J_if_eq Z.1 56 dX13_time_44 (by decide) (fun c7 => ?_) (fun c7 => ?_)
      · rw [if_pos c7] at hf
        refine J_lv [0] rfl ?_
        exact pX13_time_b56_ok Z hK t0  _ hf
      · rw [if_neg c7] at hf
        refine J_aload_n Z.1 0 dX13_time_47 rfl rfl ?_
        refine J_get (v := va_rf (hR h2 this 46)) Z.1 dX13_time_48 fl_X13_62 t0 rfl ?_
        refine J_tr (fun r8 er8 => ?_)
        replace hf := lt_i hf r8 er8
        refine J_iload_n Z.1 1 dX13_time_51 rfl rfl ?_
        obtain ⟨a8, rfl, hf⟩ := nn_i hf
        obtain ⟨t9, hf⟩ := tg_i hf
        obtain ⟨i10, hf⟩ := ix_i hf
        refine J_iaload Z.1 dX13_time_52 t9 i10 ?_
        refine J_if_ge Z.1 63 dX13_time_53 (by decide) (fun c11 => ?_) (fun c11 => ?_)
        · rw [if_pos c11] at hf
          refine J_iload_n Z.1 2 dX13_time_63 rfl rfl ?_
          refine J_if_ne Z.1 76 dX13_time_64 (by decide) (fun c12 => ?_) (fun c12 => ?_)
          · rw [if_neg c12] at hf
            refine J_aload_n Z.1 0 dX13_time_76 rfl rfl ?_
            refine J_aload_n Z.1 0 dX13_time_77 rfl rfl ?_
            refine J_get (v := va_rf (hR h2 this 47)) Z.1 dX13_time_78 fl_X13_65 t0 rfl ?_
            refine J_tr (fun r13 er13 => ?_)
            replace hf := lt_i hf r13 er13
            refine J_iload_n Z.1 1 dX13_time_81 rfl rfl ?_
            obtain ⟨a13, rfl, hf⟩ := nn_i hf
            obtain ⟨t14, hf⟩ := tg_i hf
            obtain ⟨i15, hf⟩ := ix_i hf
            refine J_iaload Z.1 dX13_time_82 t14 i15 ?_
            obtain ⟨x18, h16, q17, hf⟩ := bd2_i hf
            refine J_callV (ci := 11) (as := [.int (hI h2 a13 (Int32.toNatClampNeg p1))]) (rest := []) (sy := [.int x18]) Z.1 dX13_time_83 cw_X13_541 (pX13_answer_ok G (dk - 1) (by omega) q17) rfl rfl t0 (zG Z) rfl (by decide) (zF Z (by omega)) (zO Z (by omega) (by decide)) (zM _) Z.2.1 Z.2.1 rfl rfl ?_
            cases hf
            exact J_iret Z.1 Z.2.2.2.2.2 dX13_time_86
          · rw [if_pos c12] at hf
            refine J_aload_n Z.1 0 dX13_time_67 rfl rfl ?_
            refine J_get (v := va_rf (hR h2 this 46)) Z.1 dX13_time_68 fl_X13_62 t0 rfl ?_
            refine J_tr (fun r19 er19 => ?_)
            replace hf := lt_i hf r19 er19
            refine J_iload_n Z.1 1 dX13_time_71 rfl rfl ?_
            obtain ⟨a19, rfl, hf⟩ := nn_i hf
            obtain ⟨t20, hf⟩ := tg_i hf
            obtain ⟨i21, hf⟩ := ix_i hf
            refine J_iaload Z.1 dX13_time_72 t20 i21 ?_
            refine J_goto Z.1 86 dX13_time_73 (by decide) ?_
            cases hf
            exact J_iret Z.1 Z.2.2.2.2.2 dX13_time_86
        · rw [if_neg c11] at hf
          refine J_lv [0] rfl ?_
          exact pX13_time_b56_ok Z hK t0  _ hf
    · rw [if_pos c6] at hf
      refine J_aload_n Z.1 0 dX13_time_34 rfl rfl ?_
      refine J_iconst Z.1 (v := 5) (by decide) dX13_time_35 ?_
      obtain ⟨x24, h22, q23, hf⟩ := bd2_i hf
      refine J_callV (ci := 11) (as := [.int 5]) (rest := []) (sy := [.int x24]) Z.1 dX13_time_36 cw_X13_268 (pX13_refuse_ok G (dk - 1) (by omega) q23) rfl rfl t0 (zG Z) rfl (by decide) (zF Z (by omega)) (zO Z (by omega) (by decide)) (zM _) Z.2.1 Z.2.1 rfl rfl ?_
      cases hf
      exact J_iret Z.1 Z.2.2.2.2.2 dX13_time_39
  · rw [if_pos c5] at hf
    refine J_aload_n Z.1 0 dX13_time_18 rfl rfl ?_
    refine J_iconst Z.1 (v := 2) (by decide) dX13_time_19 ?_
    obtain ⟨x27, h25, q26, hf⟩ := bd2_i hf
    refine J_callV (ci := 11) (as := [.int 2]) (rest := []) (sy := [.int x27]) Z.1 dX13_time_20 cw_X13_268 (pX13_refuse_ok G (dk - 1) (by omega) q26) rfl rfl t0 (zG Z) rfl (by decide) (zF Z (by omega)) (zO Z (by omega) (by decide)) (zM _) Z.2.1 Z.2.1 rfl rfl ?_
    cases hf
    exact J_iret Z.1 Z.2.2.2.2.2 dX13_time_23
theorem dX13_summed_0 : decode cX13_summed 0 = .ok (.aload_n 0, 1) := by decide +kernel
theorem dX13_summed_1 : decode cX13_summed 1 = .ok (.getfield 31, 3) := by decide +kernel
theorem dX13_summed_4 : decode cX13_summed 4 = .ok (.iconst 0, 1) := by decide +kernel
theorem dX13_summed_5 : decode cX13_summed 5 = .ok (.iaload, 1) := by decide +kernel
theorem dX13_summed_6 : decode cX13_summed 6 = .ok (.istore_n 3, 1) := by decide +kernel
theorem dX13_summed_7 : decode cX13_summed 7 = .ok (.iload_n 3, 1) := by decide +kernel
theorem dX13_summed_8 : decode cX13_summed 8 = .ok (.ifCond .ne 5, 3) := by decide +kernel
theorem dX13_summed_11 : decode cX13_summed 11 = .ok (.dconst 0, 1) := by decide +kernel
theorem dX13_summed_12 : decode cX13_summed 12 = .ok (.dreturn, 1) := by decide +kernel
theorem dX13_summed_13 : decode cX13_summed 13 = .ok (.iload_n 2, 1) := by decide +kernel
theorem dX13_summed_14 : decode cX13_summed 14 = .ok (.iconst 2, 1) := by decide +kernel
theorem dX13_summed_15 : decode cX13_summed 15 = .ok (.if_icmp .ne 11, 3) := by decide +kernel
theorem dX13_summed_18 : decode cX13_summed 18 = .ok (.aload_n 0, 1) := by decide +kernel
theorem dX13_summed_19 : decode cX13_summed 19 = .ok (.iload_n 1, 1) := by decide +kernel
theorem dX13_summed_20 : decode cX13_summed 20 = .ok (.iload_n 3, 1) := by decide +kernel
theorem dX13_summed_21 : decode cX13_summed 21 = .ok (.iconst 1, 1) := by decide +kernel
theorem dX13_summed_22 : decode cX13_summed 22 = .ok (.invokevirtual 490, 3) := by decide +kernel
theorem dX13_summed_25 : decode cX13_summed 25 = .ok (.dreturn, 1) := by decide +kernel
theorem dX13_summed_26 : decode cX13_summed 26 = .ok (.aload_n 0, 1) := by decide +kernel
theorem dX13_summed_27 : decode cX13_summed 27 = .ok (.getfield 34, 3) := by decide +kernel
theorem dX13_summed_30 : decode cX13_summed 30 = .ok (.bipush 16, 2) := by decide +kernel
theorem dX13_summed_32 : decode cX13_summed 32 = .ok (.iload_n 1, 1) := by decide +kernel
theorem dX13_summed_33 : decode cX13_summed 33 = .ok (.imul, 1) := by decide +kernel
theorem dX13_summed_34 : decode cX13_summed 34 = .ok (.iload_n 2, 1) := by decide +kernel
theorem dX13_summed_35 : decode cX13_summed 35 = .ok (.ifCond .ne 7, 3) := by decide +kernel
theorem dX13_summed_38 : decode cX13_summed 38 = .ok (.iconst 0, 1) := by decide +kernel
theorem dX13_summed_39 : decode cX13_summed 39 = .ok (.goto 6, 3) := by decide +kernel
theorem dX13_summed_42 : decode cX13_summed 42 = .ok (.iload_n 3, 1) := by decide +kernel
theorem dX13_summed_43 : decode cX13_summed 43 = .ok (.iconst 1, 1) := by decide +kernel
theorem dX13_summed_44 : decode cX13_summed 44 = .ok (.isub, 1) := by decide +kernel
theorem dX13_summed_45 : decode cX13_summed 45 = .ok (.iadd, 1) := by decide +kernel
theorem dX13_summed_46 : decode cX13_summed 46 = .ok (.daload, 1) := by decide +kernel
theorem dX13_summed_47 : decode cX13_summed 47 = .ok (.dstore 4, 2) := by decide +kernel
theorem dX13_summed_49 : decode cX13_summed 49 = .ok (.iconst 1, 1) := by decide +kernel
theorem dX13_summed_50 : decode cX13_summed 50 = .ok (.istore 6, 2) := by decide +kernel
theorem dX13_summed_52 : decode cX13_summed 52 = .ok (.iload 6, 2) := by decide +kernel
theorem dX13_summed_54 : decode cX13_summed 54 = .ok (.iload_n 3, 1) := by decide +kernel
theorem dX13_summed_55 : decode cX13_summed 55 = .ok (.if_icmp .ge 39, 3) := by decide +kernel
theorem dX13_summed_58 : decode cX13_summed 58 = .ok (.dload 4, 2) := by decide +kernel
theorem dX13_summed_60 : decode cX13_summed 60 = .ok (.aload_n 0, 1) := by decide +kernel
theorem dX13_summed_61 : decode cX13_summed 61 = .ok (.getfield 34, 3) := by decide +kernel
theorem dX13_summed_64 : decode cX13_summed 64 = .ok (.bipush 16, 2) := by decide +kernel
theorem dX13_summed_66 : decode cX13_summed 66 = .ok (.iload_n 1, 1) := by decide +kernel
theorem dX13_summed_67 : decode cX13_summed 67 = .ok (.imul, 1) := by decide +kernel
theorem dX13_summed_68 : decode cX13_summed 68 = .ok (.iload_n 2, 1) := by decide +kernel
theorem dX13_summed_69 : decode cX13_summed 69 = .ok (.ifCond .ne 8, 3) := by decide +kernel
theorem dX13_summed_72 : decode cX13_summed 72 = .ok (.iload 6, 2) := by decide +kernel
theorem dX13_summed_74 : decode cX13_summed 74 = .ok (.goto 9, 3) := by decide +kernel
theorem dX13_summed_77 : decode cX13_summed 77 = .ok (.iload_n 3, 1) := by decide +kernel
theorem dX13_summed_78 : decode cX13_summed 78 = .ok (.iconst 1, 1) := by decide +kernel
theorem dX13_summed_79 : decode cX13_summed 79 = .ok (.isub, 1) := by decide +kernel
theorem dX13_summed_80 : decode cX13_summed 80 = .ok (.iload 6, 2) := by decide +kernel
theorem dX13_summed_82 : decode cX13_summed 82 = .ok (.isub, 1) := by decide +kernel
theorem dX13_summed_83 : decode cX13_summed 83 = .ok (.iadd, 1) := by decide +kernel
theorem dX13_summed_84 : decode cX13_summed 84 = .ok (.daload, 1) := by decide +kernel
theorem dX13_summed_85 : decode cX13_summed 85 = .ok (.dadd, 1) := by decide +kernel
theorem dX13_summed_86 : decode cX13_summed 86 = .ok (.dstore 4, 2) := by decide +kernel
theorem dX13_summed_88 : decode cX13_summed 88 = .ok (.iinc 6 1, 3) := by decide +kernel
theorem dX13_summed_91 : decode cX13_summed 91 = .ok (.goto (-39), 3) := by decide +kernel
theorem dX13_summed_94 : decode cX13_summed 94 = .ok (.dload 4, 2) := by decide +kernel
theorem dX13_summed_96 : decode cX13_summed 96 = .ok (.dreturn, 1) := by decide +kernel
def pX13_summed_b83 (g : MT) (this : Nat) (p1 : Int32) (p2 : Int32) (k52 : Int32 → UInt64 → Int32 → CT → Option ((UInt64) × CT)) (l3 : Int32) (l6 : Int32) (s0 : UInt64) (r81 : Option Nat) (s2 : Int32) (s3 : Int32) (h : CT) : Option ((UInt64) × CT) := nn r81 fun a81 => (tg g a81 22 (ix (gL g a81) (s2 + s3) (lt (fadd s0 (hD h a81 (Int32.toNatClampNeg (s2 + s3)))) fun x3 => (lt (l6 + 1) fun x4 => (k52 l3 x3 x4 h)))))
set_option maxRecDepth 10000 in
set_option maxHeartbeats 4000000 in
theorem pX13_summed_b83_ok {X : Cx} {G : Gx} {dk : Nat} {g : MT} {r0 : UInt64} {h0 : CT} {this : Nat} {p1 : Int32} {p2 : Int32} {k52 : Int32 → UInt64 → Int32 → CT → Option ((UInt64) × CT)} (Z : Zx X G cX13_summed RX13 7 dk (some .double) (some (.double r0)) g h0) (hK : 2 ≤ dk) (t0 : gT g this = 12) (hk52 : ∀ (l3 : Int32) (l4 : UInt64) (l6 : Int32) (h : CT), k52 l3 l4 l6 h = some (r0, h0) → J X g h 52 [(0, va_rf (some this)), (1, .int p1), (2, .int p2), (3, .int l3), (4, .double l4), (6, .int l6)] []) (l3 : Int32) (l6 : Int32) (s0 : UInt64) (r81 : Option Nat) (s2 : Int32) (s3 : Int32) (h : CT) (hf : pX13_summed_b83 g this p1 p2 k52 l3 l6 s0 r81 s2 s3 h = some (r0, h0)) : J X g h 83 [(0, va_rf (some this)), (1, .int p1), (2, .int p2), (3, .int l3), (6, .int l6)] [.int s3, .int s2, va_rf r81, .double s0] := by
  unfold pX13_summed_b83 at hf
  refine J_iadd Z.1 dX13_summed_83 ?_
  obtain ⟨a81, rfl, hf⟩ := nn_i hf
  obtain ⟨t1, hf⟩ := tg_i hf
  obtain ⟨i2, hf⟩ := ix_i hf
  refine J_daload Z.1 dX13_summed_84 t1 i2 ?_
  refine J_dadd Z.1 dX13_summed_85 ?_
  refine J_td (fun x3 ex3 => ?_)
  replace hf := lt_i hf x3 ex3
  refine J_dstore Z.1 (lv2 := [(4, .double x3), (0, va_rf (some this)), (1, .int p1), (2, .int p2), (3, .int l3), (6, .int l6)]) dX13_summed_86 (zL Z (by decide)) rfl ?_
  refine J_iinc Z.1 (v := 1) (lv2 := [(6, .int (l6 + 1)), (4, .double x3), (0, va_rf (some this)), (1, .int p1), (2, .int p2), (3, .int l3)]) 5 dX13_summed_88 rfl (by decide) (zL Z (by decide)) rfl ?_
  obtain ⟨x4, ex4⟩ : ∃ z, z = (l6 + 1) := ⟨_, rfl⟩
  replace hf := lt_i hf x4 ex4
  rw [← ex4]
  refine J_goto Z.1 52 dX13_summed_91 (by decide) ?_
  refine J_lv [2, 3, 4, 5, 1, 0] rfl ?_
  exact hk52 _ _ _ _ hf
def pX13_summed_b52 (g : MT) (this : Nat) (p1 : Int32) (p2 : Int32) (k52 : Int32 → UInt64 → Int32 → CT → Option ((UInt64) × CT)) (l3 : Int32) (l4 : UInt64) (l6 : Int32) (h : CT) : Option ((UInt64) × CT) := if l3 ≤ l6 then some (l4, h) else lt (hR h this 20) fun r2 => (if p2 = 0 then pX13_summed_b83 g this p1 p2 k52 l3 l6 l4 r2 (16 * p1) l6 h else pX13_summed_b83 g this p1 p2 k52 l3 l6 l4 r2 (16 * p1) ((l3 - 1) - l6) h)
set_option maxRecDepth 10000 in
set_option maxHeartbeats 4000000 in
theorem pX13_summed_b52_ok {X : Cx} {G : Gx} {dk : Nat} {g : MT} {r0 : UInt64} {h0 : CT} {this : Nat} {p1 : Int32} {p2 : Int32} {k52 : Int32 → UInt64 → Int32 → CT → Option ((UInt64) × CT)} (Z : Zx X G cX13_summed RX13 7 dk (some .double) (some (.double r0)) g h0) (hK : 2 ≤ dk) (t0 : gT g this = 12) (hk52 : ∀ (l3 : Int32) (l4 : UInt64) (l6 : Int32) (h : CT), k52 l3 l4 l6 h = some (r0, h0) → J X g h 52 [(0, va_rf (some this)), (1, .int p1), (2, .int p2), (3, .int l3), (4, .double l4), (6, .int l6)] []) (l3 : Int32) (l4 : UInt64) (l6 : Int32) (h : CT) (hf : pX13_summed_b52 g this p1 p2 k52 l3 l4 l6 h = some (r0, h0)) : J X g h 52 [(0, va_rf (some this)), (1, .int p1), (2, .int p2), (3, .int l3), (4, .double l4), (6, .int l6)] [] := by
  unfold pX13_summed_b52 at hf
  refine J_iload Z.1 5 dX13_summed_52 rfl ?_
  refine J_iload_n Z.1 3 dX13_summed_54 rfl rfl ?_
  refine J_icmp_ge Z.1 94 dX13_summed_55 (by decide) (fun c1 => ?_) (fun c1 => ?_)
  · rw [if_pos c1] at hf
    refine J_dload Z.1 4 dX13_summed_94 rfl ?_
    cases hf
    exact J_dret Z.1 Z.2.2.2.2.2 dX13_summed_96
  · rw [if_neg c1] at hf
    refine J_dload Z.1 4 dX13_summed_58 rfl ?_
    refine J_aload_n Z.1 0 dX13_summed_60 rfl rfl ?_
    refine J_get (v := va_rf (hR h this 20)) Z.1 dX13_summed_61 fl_X13_34 t0 rfl ?_
    refine J_tr (fun r2 er2 => ?_)
    replace hf := lt_i hf r2 er2
    refine J_bipush Z.1 (v := 16) (by decide) dX13_summed_64 ?_
    refine J_iload_n Z.1 1 dX13_summed_66 rfl rfl ?_
    refine J_imul Z.1 dX13_summed_67 ?_
    refine J_iload_n Z.1 2 dX13_summed_68 rfl rfl ?_
    refine J_if_ne Z.1 77 dX13_summed_69 (by decide) (fun c3 => ?_) (fun c3 => ?_)
    · rw [if_neg c3] at hf
      refine J_iload_n Z.1 3 dX13_summed_77 rfl rfl ?_
      refine J_iconst Z.1 (v := 1) (by decide) dX13_summed_78 ?_
      refine J_isub Z.1 dX13_summed_79 ?_
      refine J_iload Z.1 5 dX13_summed_80 rfl ?_
      refine J_isub Z.1 dX13_summed_82 ?_
      refine J_lv [0, 1, 2, 3, 5] rfl ?_
      exact pX13_summed_b83_ok Z hK t0 hk52 _ _ _ _ _ _ _ hf
    · rw [if_pos c3] at hf
      refine J_iload Z.1 5 dX13_summed_72 rfl ?_
      refine J_goto Z.1 83 dX13_summed_74 (by decide) ?_
      refine J_lv [0, 1, 2, 3, 5] rfl ?_
      exact pX13_summed_b83_ok Z hK t0 hk52 _ _ _ _ _ _ _ hf
def pX13_summed_l52 (g : MT) (this : Nat) (p1 : Int32) (p2 : Int32) : Nat → Int32 → UInt64 → Int32 → CT → Option ((UInt64) × CT)
  | 0, _, _, _, _ => none
  | n + 1, l3, l4, l6, h => pX13_summed_b52 g this p1 p2 (pX13_summed_l52 g this p1 p2 n) l3 l4 l6 h
theorem pX13_summed_l52_ok {X : Cx} {G : Gx} {dk : Nat} {g : MT} {r0 : UInt64} {h0 : CT} {this : Nat} {p1 : Int32} {p2 : Int32} (Z : Zx X G cX13_summed RX13 7 dk (some .double) (some (.double r0)) g h0) (hK : 2 ≤ dk) (t0 : gT g this = 12) : ∀ (n : Nat) (l3 : Int32) (l4 : UInt64) (l6 : Int32) (h : CT), pX13_summed_l52 g this p1 p2 n l3 l4 l6 h = some (r0, h0) → J X g h 52 [(0, va_rf (some this)), (1, .int p1), (2, .int p2), (3, .int l3), (4, .double l4), (6, .int l6)] [] := by
  intro n
  induction n with
  | zero => intro l3 l4 l6 h hf; cases hf
  | succ n ih => intro l3 l4 l6 h hf; exact pX13_summed_b52_ok Z hK t0 ih l3 l4 l6 h hf
def pX13_summed_b45 (g : MT) (this : Nat) (p1 : Int32) (p2 : Int32) (l3 : Int32) (r80 : Option Nat) (s1 : Int32) (s2 : Int32) (h : CT) : Option ((UInt64) × CT) := nn r80 fun a80 => (tg g a80 22 (ix (gL g a80) (s1 + s2) (lt (hD h a80 (Int32.toNatClampNeg (s1 + s2))) fun x3 => (pX13_summed_l52 g this p1 p2  FUEL l3 x3 1 h))))
set_option maxRecDepth 10000 in
set_option maxHeartbeats 4000000 in
theorem pX13_summed_b45_ok {X : Cx} {G : Gx} {dk : Nat} {g : MT} {r0 : UInt64} {h0 : CT} {this : Nat} {p1 : Int32} {p2 : Int32} (Z : Zx X G cX13_summed RX13 7 dk (some .double) (some (.double r0)) g h0) (hK : 2 ≤ dk) (t0 : gT g this = 12) (l3 : Int32) (r80 : Option Nat) (s1 : Int32) (s2 : Int32) (h : CT) (hf : pX13_summed_b45 g this p1 p2 l3 r80 s1 s2 h = some (r0, h0)) : J X g h 45 [(0, va_rf (some this)), (1, .int p1), (2, .int p2), (3, .int l3)] [.int s2, .int s1, va_rf r80] := by
  unfold pX13_summed_b45 at hf
  refine J_iadd Z.1 dX13_summed_45 ?_
  obtain ⟨a80, rfl, hf⟩ := nn_i hf
  obtain ⟨t1, hf⟩ := tg_i hf
  obtain ⟨i2, hf⟩ := ix_i hf
  refine J_daload Z.1 dX13_summed_46 t1 i2 ?_
  refine J_td (fun x3 ex3 => ?_)
  replace hf := lt_i hf x3 ex3
  refine J_dstore Z.1 (lv2 := [(4, .double x3), (0, va_rf (some this)), (1, .int p1), (2, .int p2), (3, .int l3)]) dX13_summed_47 (zL Z (by decide)) rfl ?_
  refine J_iconst Z.1 (v := 1) (by decide) dX13_summed_49 ?_
  refine J_istore Z.1 (lv2 := [(6, .int 1), (4, .double x3), (0, va_rf (some this)), (1, .int p1), (2, .int p2), (3, .int l3)]) dX13_summed_50 (zL Z (by decide)) rfl ?_
  refine J_lv [2, 3, 4, 5, 1, 0] rfl ?_
  exact pX13_summed_l52_ok Z hK t0  FUEL _ _ _ _ hf
def pX13_summed (g : MT) (h : CT) (this : Nat) (p1 : Int32) (p2 : Int32) : Option ((UInt64) × CT) := tg g this 12 (lt (hR h this 19) fun r1 => (nn r1 fun a1 => (tg g a1 20 (ix (gL g a1) 0 (lt (hI h a1 (Int32.toNatClampNeg 0)) fun x4 => (if x4 = 0 then some (0, h) else if p2 = 2 then bd2 (pX13_folded g h this p1 x4 1) fun x11 h9 => (some (x11, h9)) else lt (hR h this 20) fun r7 => (if p2 = 0 then pX13_summed_b45 g this p1 p2  x4 r7 (16 * p1) 0 h else pX13_summed_b45 g this p1 p2  x4 r7 (16 * p1) (x4 - 1) h)))))))
set_option maxRecDepth 10000 in
set_option maxHeartbeats 4000000 in
theorem pX13_summed_ok (G : Gx) (dk : Nat) (hK : 2 ≤ dk) {g : MT} {h h0 : CT} {this : Nat} {p1 : Int32} {p2 : Int32} {r0 : UInt64} (hf : pX13_summed g h this p1 p2 = some (r0, h0)) : Ctr G dk yX13_summed cX13_summed 7 (some .double) [va_rf (some this), .int p1, .int p2] g h (some (.double r0)) g h0 := by
  refine Ctr.ofZ (lv := [(0, va_rf (some this)), (1, .int p1), (2, .int p2)]) (by decide +kernel) (by simp [cat_i, cat_l, cat_d, cat_rf]) rfl fun X Z => ?_
  unfold pX13_summed at hf
  obtain ⟨t0, hf⟩ := tg_i hf
  refine J_aload_n Z.1 0 dX13_summed_0 rfl rfl ?_
  refine J_get (v := va_rf (hR h this 19)) Z.1 dX13_summed_1 fl_X13_31 t0 rfl ?_
  refine J_tr (fun r1 er1 => ?_)
  replace hf := lt_i hf r1 er1
  refine J_iconst Z.1 (v := 0) (by decide) dX13_summed_4 ?_
  obtain ⟨a1, rfl, hf⟩ := nn_i hf
  obtain ⟨t2, hf⟩ := tg_i hf
  obtain ⟨i3, hf⟩ := ix_i hf
  refine J_iaload Z.1 dX13_summed_5 t2 i3 ?_
  refine J_ti (fun x4 ex4 => ?_)
  replace hf := lt_i hf x4 ex4
  refine J_istore_n Z.1 (lv2 := [(3, .int x4), (0, va_rf (some this)), (1, .int p1), (2, .int p2)]) dX13_summed_6 rfl (zL Z (by decide)) rfl ?_
  refine J_iload_n Z.1 0 dX13_summed_7 rfl rfl ?_
  refine J_if_ne Z.1 13 dX13_summed_8 (by decide) (fun c5 => ?_) (fun c5 => ?_)
  · rw [if_neg c5] at hf
    refine J_iload_n Z.1 3 dX13_summed_13 rfl rfl ?_
    refine J_iconst Z.1 (v := 2) (by decide) dX13_summed_14 ?_
    refine J_icmp_ne Z.1 26 dX13_summed_15 (by decide) (fun c6 => ?_) (fun c6 => ?_)
    · rw [if_neg c6] at hf
      refine J_aload_n Z.1 1 dX13_summed_26 rfl rfl ?_
      refine J_get (v := va_rf (hR h this 20)) Z.1 dX13_summed_27 fl_X13_34 t0 rfl ?_
      refine J_tr (fun r7 er7 => ?_)
      replace hf := lt_i hf r7 er7
      refine J_bipush Z.1 (v := 16) (by decide) dX13_summed_30 ?_
      refine J_iload_n Z.1 2 dX13_summed_32 rfl rfl ?_
      refine J_imul Z.1 dX13_summed_33 ?_
      refine J_iload_n Z.1 3 dX13_summed_34 rfl rfl ?_
      refine J_if_ne Z.1 42 dX13_summed_35 (by decide) (fun c8 => ?_) (fun c8 => ?_)
      · rw [if_neg c8] at hf
        refine J_iload_n Z.1 0 dX13_summed_42 rfl rfl ?_
        refine J_iconst Z.1 (v := 1) (by decide) dX13_summed_43 ?_
        refine J_isub Z.1 dX13_summed_44 ?_
        refine J_lv [1, 2, 3, 0] rfl ?_
        exact pX13_summed_b45_ok Z hK t0  _ _ _ _ _ hf
      · rw [if_pos c8] at hf
        refine J_iconst Z.1 (v := 0) (by decide) dX13_summed_38 ?_
        refine J_goto Z.1 45 dX13_summed_39 (by decide) ?_
        refine J_lv [1, 2, 3, 0] rfl ?_
        exact pX13_summed_b45_ok Z hK t0  _ _ _ _ _ hf
    · rw [if_pos c6] at hf
      refine J_aload_n Z.1 1 dX13_summed_18 rfl rfl ?_
      refine J_iload_n Z.1 2 dX13_summed_19 rfl rfl ?_
      refine J_iload_n Z.1 0 dX13_summed_20 rfl rfl ?_
      refine J_iconst Z.1 (v := 1) (by decide) dX13_summed_21 ?_
      obtain ⟨x11, h9, q10, hf⟩ := bd2_i hf
      refine J_callV (ci := 11) (as := [.int p1, .int x4, .int 1]) (rest := []) (sy := [.double x11]) Z.1 dX13_summed_22 cw_X13_490 (pX13_folded_ok G (dk - 1) (by omega) q10) rfl rfl t0 (zG Z) rfl (by decide) (zF Z (by omega)) (zO Z (by omega) (by decide)) (zM _) Z.2.1 Z.2.1 rfl rfl ?_
      cases hf
      exact J_dret Z.1 Z.2.2.2.2.2 dX13_summed_25
  · rw [if_pos c5] at hf
    refine J_dconst0 Z.1 dX13_summed_11 ?_
    cases hf
    exact J_dret Z.1 Z.2.2.2.2.2 dX13_summed_12
theorem dX13_sum_0 : decode cX13_sum 0 = .ok (.aload_n 0, 1) := by decide +kernel
theorem dX13_sum_1 : decode cX13_sum 1 = .ok (.iconst 0, 1) := by decide +kernel
theorem dX13_sum_2 : decode cX13_sum 2 = .ok (.putfield 71, 3) := by decide +kernel
theorem dX13_sum_5 : decode cX13_sum 5 = .ok (.aload_n 0, 1) := by decide +kernel
theorem dX13_sum_6 : decode cX13_sum 6 = .ok (.iconst 0, 1) := by decide +kernel
theorem dX13_sum_7 : decode cX13_sum 7 = .ok (.putfield 74, 3) := by decide +kernel
theorem dX13_sum_10 : decode cX13_sum 10 = .ok (.iload_n 1, 1) := by decide +kernel
theorem dX13_sum_11 : decode cX13_sum 11 = .ok (.invokestatic 281, 3) := by decide +kernel
theorem dX13_sum_14 : decode cX13_sum 14 = .ok (.ifCond .ne 9, 3) := by decide +kernel
theorem dX13_sum_17 : decode cX13_sum 17 = .ok (.aload_n 0, 1) := by decide +kernel
theorem dX13_sum_18 : decode cX13_sum 18 = .ok (.iconst 2, 1) := by decide +kernel
theorem dX13_sum_19 : decode cX13_sum 19 = .ok (.invokevirtual 268, 3) := by decide +kernel
theorem dX13_sum_22 : decode cX13_sum 22 = .ok (.ireturn, 1) := by decide +kernel
theorem dX13_sum_23 : decode cX13_sum 23 = .ok (.aload_n 0, 1) := by decide +kernel
theorem dX13_sum_24 : decode cX13_sum 24 = .ok (.iload_n 1, 1) := by decide +kernel
theorem dX13_sum_25 : decode cX13_sum 25 = .ok (.invokevirtual 386, 3) := by decide +kernel
theorem dX13_sum_28 : decode cX13_sum 28 = .ok (.ifCond .eq 9, 3) := by decide +kernel
theorem dX13_sum_31 : decode cX13_sum 31 = .ok (.aload_n 0, 1) := by decide +kernel
theorem dX13_sum_32 : decode cX13_sum 32 = .ok (.iconst 3, 1) := by decide +kernel
theorem dX13_sum_33 : decode cX13_sum 33 = .ok (.invokevirtual 268, 3) := by decide +kernel
theorem dX13_sum_36 : decode cX13_sum 36 = .ok (.ireturn, 1) := by decide +kernel
theorem dX13_sum_37 : decode cX13_sum 37 = .ok (.iload_n 2, 1) := by decide +kernel
theorem dX13_sum_38 : decode cX13_sum 38 = .ok (.i2l, 1) := by decide +kernel
theorem dX13_sum_39 : decode cX13_sum 39 = .ok (.lconst 0, 1) := by decide +kernel
theorem dX13_sum_40 : decode cX13_sum 40 = .ok (.ldc2_w 118, 3) := by decide +kernel
theorem dX13_sum_43 : decode cX13_sum 43 = .ok (.invokestatic 104, 3) := by decide +kernel
theorem dX13_sum_46 : decode cX13_sum 46 = .ok (.ifCond .eq 16, 3) := by decide +kernel
theorem dX13_sum_49 : decode cX13_sum 49 = .ok (.aload_n 0, 1) := by decide +kernel
theorem dX13_sum_50 : decode cX13_sum 50 = .ok (.aload_n 0, 1) := by decide +kernel
theorem dX13_sum_51 : decode cX13_sum 51 = .ok (.iload_n 1, 1) := by decide +kernel
theorem dX13_sum_52 : decode cX13_sum 52 = .ok (.iload_n 2, 1) := by decide +kernel
theorem dX13_sum_53 : decode cX13_sum 53 = .ok (.invokevirtual 547, 3) := by decide +kernel
theorem dX13_sum_56 : decode cX13_sum 56 = .ok (.invokevirtual 291, 3) := by decide +kernel
theorem dX13_sum_59 : decode cX13_sum 59 = .ok (.goto 8, 3) := by decide +kernel
theorem dX13_sum_62 : decode cX13_sum 62 = .ok (.aload_n 0, 1) := by decide +kernel
theorem dX13_sum_63 : decode cX13_sum 63 = .ok (.iconst 5, 1) := by decide +kernel
theorem dX13_sum_64 : decode cX13_sum 64 = .ok (.invokevirtual 268, 3) := by decide +kernel
theorem dX13_sum_67 : decode cX13_sum 67 = .ok (.ireturn, 1) := by decide +kernel
def pX13_sum (g : MT) (h : CT) (this : Nat) (p1 : Int32) (p2 : Int32) : Option ((Int32) × CT) := tg g this 12 (lt (sI h this 1 0) fun h1 => (lt (sI h1 this 0 0) fun h2 => (if (pX13_isRow p1) = 0 then bd2 (pX13_refuse g h2 this 2) fun x22 h20 => (some (x22, h20)) else bd (pX13_misses g h2 this p1) fun x4 => (if x4 = 0 then if (pX13_isIn (Int32.toInt64 p2) 0 2) = 0 then bd2 (pX13_refuse g h2 this 5) fun x10 h8 => (some (x10, h8)) else bd2 (pX13_summed g h2 this p1 p2) fun x13 h11 => (bd2 (pX13_tells g h11 this x13) fun x16 h14 => (some (x16, h14))) else bd2 (pX13_refuse g h2 this 3) fun x19 h17 => (some (x19, h17))))))
set_option maxRecDepth 10000 in
set_option maxHeartbeats 4000000 in
theorem pX13_sum_ok (G : Gx) (dk : Nat) (hK : 3 ≤ dk) {g : MT} {h h0 : CT} {this : Nat} {p1 : Int32} {p2 : Int32} {r0 : Int32} (hf : pX13_sum g h this p1 p2 = some (r0, h0)) : Ctr G dk yX13_sum cX13_sum 3 (some .int) [va_rf (some this), .int p1, .int p2] g h (some (.int r0)) g h0 := by
  refine Ctr.ofZ (lv := [(0, va_rf (some this)), (1, .int p1), (2, .int p2)]) (by decide +kernel) (by simp [cat_i, cat_l, cat_d, cat_rf]) rfl fun X Z => ?_
  unfold pX13_sum at hf
  obtain ⟨t0, hf⟩ := tg_i hf
  refine J_aload_n Z.1 0 dX13_sum_0 rfl rfl ?_
  refine J_iconst Z.1 (v := 0) (by decide) dX13_sum_1 ?_
  refine J_putI Z.1 dX13_sum_2 fl_X13_71 (fun q => by cases q) t0 rfl rfl (congrArg Value.int (hI_s _ _ _ _)) ?_
  refine J_th (fun h1 eh1 => ?_)
  replace hf := lt_i hf h1 eh1
  refine J_aload_n Z.1 0 dX13_sum_5 rfl rfl ?_
  refine J_iconst Z.1 (v := 0) (by decide) dX13_sum_6 ?_
  refine J_putI Z.1 dX13_sum_7 fl_X13_74 (fun q => by cases q) t0 rfl rfl (congrArg Value.int (hI_s _ _ _ _)) ?_
  refine J_th (fun h2 eh2 => ?_)
  replace hf := lt_i hf h2 eh2
  refine J_iload_n Z.1 1 dX13_sum_10 rfl rfl ?_
  refine J_callS (as := [.int p1]) (rest := []) (sy := [.int (pX13_isRow p1)]) Z.1 dX13_sum_11 cw_X13_281 (pX13_isRow_ok G (dk - 1) (by omega) g h2 p1) (zG Z) rfl (by decide) (zF Z (by omega)) (zO Z (by omega) (by decide)) (zM _) Z.2.1 Z.2.1 rfl rfl ?_
  refine J_if_ne Z.1 23 dX13_sum_14 (by decide) (fun c3 => ?_) (fun c3 => ?_)
  · rw [if_neg c3] at hf
    refine J_aload_n Z.1 0 dX13_sum_23 rfl rfl ?_
    refine J_iload_n Z.1 1 dX13_sum_24 rfl rfl ?_
    obtain ⟨x4, q5, hf⟩ := bd_i hf
    refine J_callV (ci := 11) (as := [.int p1]) (rest := []) (sy := [.int x4]) Z.1 dX13_sum_25 cw_X13_386 (pX13_misses_ok G (dk - 1) (by omega) q5) rfl rfl t0 (zG Z) rfl (by decide) (zF Z (by omega)) (zO Z (by omega) (by decide)) (zM _) Z.2.1 Z.2.1 rfl rfl ?_
    refine J_if_eq Z.1 37 dX13_sum_28 (by decide) (fun c6 => ?_) (fun c6 => ?_)
    · rw [if_pos c6] at hf
      refine J_iload_n Z.1 2 dX13_sum_37 rfl rfl ?_
      refine J_i2l Z.1 dX13_sum_38 ?_
      refine J_lconst Z.1 (v := 0) (by decide) dX13_sum_39 ?_
      refine J_ldc2 Z.1 q_1774 dX13_sum_40 ?_
      refine J_callS (as := [.long (Int32.toInt64 p2), .long 0, .long 2]) (rest := []) (sy := [.int (pX13_isIn (Int32.toInt64 p2) 0 2)]) Z.1 dX13_sum_43 cw_X13_104 (pX13_isIn_ok G (dk - 1) (by omega) g h2 (Int32.toInt64 p2) 0 2) (zG Z) rfl (by decide) (zF Z (by omega)) (zO Z (by omega) (by decide)) (zM _) Z.2.1 Z.2.1 rfl rfl ?_
      refine J_if_eq Z.1 62 dX13_sum_46 (by decide) (fun c7 => ?_) (fun c7 => ?_)
      · rw [if_pos c7] at hf
        refine J_aload_n Z.1 0 dX13_sum_62 rfl rfl ?_
        refine J_iconst Z.1 (v := 5) (by decide) dX13_sum_63 ?_
        obtain ⟨x10, h8, q9, hf⟩ := bd2_i hf
        refine J_callV (ci := 11) (as := [.int 5]) (rest := []) (sy := [.int x10]) Z.1 dX13_sum_64 cw_X13_268 (pX13_refuse_ok G (dk - 1) (by omega) q9) rfl rfl t0 (zG Z) rfl (by decide) (zF Z (by omega)) (zO Z (by omega) (by decide)) (zM _) Z.2.1 Z.2.1 rfl rfl ?_
        cases hf
        exact J_iret Z.1 Z.2.2.2.2.2 dX13_sum_67
      · rw [if_neg c7] at hf
        refine J_aload_n Z.1 0 dX13_sum_49 rfl rfl ?_
        refine J_aload_n Z.1 0 dX13_sum_50 rfl rfl ?_
        refine J_iload_n Z.1 1 dX13_sum_51 rfl rfl ?_
        refine J_iload_n Z.1 2 dX13_sum_52 rfl rfl ?_
        obtain ⟨x13, h11, q12, hf⟩ := bd2_i hf
        refine J_callV (ci := 11) (as := [.int p1, .int p2]) (rest := [va_rf (some this)]) (sy := [.double x13, va_rf (some this)]) Z.1 dX13_sum_53 cw_X13_547 (pX13_summed_ok G (dk - 1) (by omega) q12) rfl rfl t0 (zG Z) rfl (by simp [cat_i, cat_l, cat_d, cat_rf]) (zF Z (by omega)) (zO Z (by omega) (by decide)) (zM _) Z.2.1 Z.2.1 rfl rfl ?_
        obtain ⟨x16, h14, q15, hf⟩ := bd2_i hf
        refine J_callV (ci := 11) (as := [.double x13]) (rest := []) (sy := [.int x16]) Z.1 dX13_sum_56 cw_X13_291 (pX13_tells_ok G (dk - 1) (by omega) q15) rfl rfl t0 (zG Z) rfl (by decide) (zF Z (by omega)) (zO Z (by omega) (by decide)) (zM _) Z.2.1 Z.2.1 rfl rfl ?_
        refine J_goto Z.1 67 dX13_sum_59 (by decide) ?_
        cases hf
        exact J_iret Z.1 Z.2.2.2.2.2 dX13_sum_67
    · rw [if_neg c6] at hf
      refine J_aload_n Z.1 0 dX13_sum_31 rfl rfl ?_
      refine J_iconst Z.1 (v := 3) (by decide) dX13_sum_32 ?_
      obtain ⟨x19, h17, q18, hf⟩ := bd2_i hf
      refine J_callV (ci := 11) (as := [.int 3]) (rest := []) (sy := [.int x19]) Z.1 dX13_sum_33 cw_X13_268 (pX13_refuse_ok G (dk - 1) (by omega) q18) rfl rfl t0 (zG Z) rfl (by decide) (zF Z (by omega)) (zO Z (by omega) (by decide)) (zM _) Z.2.1 Z.2.1 rfl rfl ?_
      cases hf
      exact J_iret Z.1 Z.2.2.2.2.2 dX13_sum_36
  · rw [if_pos c3] at hf
    refine J_aload_n Z.1 0 dX13_sum_17 rfl rfl ?_
    refine J_iconst Z.1 (v := 2) (by decide) dX13_sum_18 ?_
    obtain ⟨x22, h20, q21, hf⟩ := bd2_i hf
    refine J_callV (ci := 11) (as := [.int 2]) (rest := []) (sy := [.int x22]) Z.1 dX13_sum_19 cw_X13_268 (pX13_refuse_ok G (dk - 1) (by omega) q21) rfl rfl t0 (zG Z) rfl (by decide) (zF Z (by omega)) (zO Z (by omega) (by decide)) (zM _) Z.2.1 Z.2.1 rfl rfl ?_
    cases hf
    exact J_iret Z.1 Z.2.2.2.2.2 dX13_sum_22
theorem dX13_sums_0 : decode cX13_sums 0 = .ok (.aload_n 0, 1) := by decide +kernel
theorem dX13_sums_1 : decode cX13_sums 1 = .ok (.iconst 0, 1) := by decide +kernel
theorem dX13_sums_2 : decode cX13_sums 2 = .ok (.putfield 71, 3) := by decide +kernel
theorem dX13_sums_5 : decode cX13_sums 5 = .ok (.aload_n 0, 1) := by decide +kernel
theorem dX13_sums_6 : decode cX13_sums 6 = .ok (.iconst 0, 1) := by decide +kernel
theorem dX13_sums_7 : decode cX13_sums 7 = .ok (.putfield 74, 3) := by decide +kernel
theorem dX13_sums_10 : decode cX13_sums 10 = .ok (.iload_n 1, 1) := by decide +kernel
theorem dX13_sums_11 : decode cX13_sums 11 = .ok (.invokestatic 281, 3) := by decide +kernel
theorem dX13_sums_14 : decode cX13_sums 14 = .ok (.ifCond .ne 9, 3) := by decide +kernel
theorem dX13_sums_17 : decode cX13_sums 17 = .ok (.aload_n 0, 1) := by decide +kernel
theorem dX13_sums_18 : decode cX13_sums 18 = .ok (.iconst 2, 1) := by decide +kernel
theorem dX13_sums_19 : decode cX13_sums 19 = .ok (.invokevirtual 268, 3) := by decide +kernel
theorem dX13_sums_22 : decode cX13_sums 22 = .ok (.ireturn, 1) := by decide +kernel
theorem dX13_sums_23 : decode cX13_sums 23 = .ok (.aload_n 0, 1) := by decide +kernel
theorem dX13_sums_24 : decode cX13_sums 24 = .ok (.iload_n 1, 1) := by decide +kernel
theorem dX13_sums_25 : decode cX13_sums 25 = .ok (.invokevirtual 386, 3) := by decide +kernel
theorem dX13_sums_28 : decode cX13_sums 28 = .ok (.ifCond .eq 9, 3) := by decide +kernel
theorem dX13_sums_31 : decode cX13_sums 31 = .ok (.aload_n 0, 1) := by decide +kernel
theorem dX13_sums_32 : decode cX13_sums 32 = .ok (.iconst 3, 1) := by decide +kernel
theorem dX13_sums_33 : decode cX13_sums 33 = .ok (.invokevirtual 268, 3) := by decide +kernel
theorem dX13_sums_36 : decode cX13_sums 36 = .ok (.ireturn, 1) := by decide +kernel
theorem dX13_sums_37 : decode cX13_sums 37 = .ok (.aload_n 0, 1) := by decide +kernel
theorem dX13_sums_38 : decode cX13_sums 38 = .ok (.iload_n 1, 1) := by decide +kernel
theorem dX13_sums_39 : decode cX13_sums 39 = .ok (.iconst 0, 1) := by decide +kernel
theorem dX13_sums_40 : decode cX13_sums 40 = .ok (.invokevirtual 547, 3) := by decide +kernel
theorem dX13_sums_43 : decode cX13_sums 43 = .ok (.dstore_n 2, 1) := by decide +kernel
theorem dX13_sums_44 : decode cX13_sums 44 = .ok (.aload_n 0, 1) := by decide +kernel
theorem dX13_sums_45 : decode cX13_sums 45 = .ok (.iload_n 1, 1) := by decide +kernel
theorem dX13_sums_46 : decode cX13_sums 46 = .ok (.iconst 1, 1) := by decide +kernel
theorem dX13_sums_47 : decode cX13_sums 47 = .ok (.invokevirtual 547, 3) := by decide +kernel
theorem dX13_sums_50 : decode cX13_sums 50 = .ok (.dstore 4, 2) := by decide +kernel
theorem dX13_sums_52 : decode cX13_sums 52 = .ok (.aload_n 0, 1) := by decide +kernel
theorem dX13_sums_53 : decode cX13_sums 53 = .ok (.iload_n 1, 1) := by decide +kernel
theorem dX13_sums_54 : decode cX13_sums 54 = .ok (.iconst 2, 1) := by decide +kernel
theorem dX13_sums_55 : decode cX13_sums 55 = .ok (.invokevirtual 547, 3) := by decide +kernel
theorem dX13_sums_58 : decode cX13_sums 58 = .ok (.dstore 6, 2) := by decide +kernel
theorem dX13_sums_60 : decode cX13_sums 60 = .ok (.dload_n 2, 1) := by decide +kernel
theorem dX13_sums_61 : decode cX13_sums 61 = .ok (.dload 4, 2) := by decide +kernel
theorem dX13_sums_63 : decode cX13_sums 63 = .ok (.invokestatic 550, 3) := by decide +kernel
theorem dX13_sums_66 : decode cX13_sums 66 = .ok (.ifCond .eq 7, 3) := by decide +kernel
theorem dX13_sums_69 : decode cX13_sums 69 = .ok (.iconst 1, 1) := by decide +kernel
theorem dX13_sums_70 : decode cX13_sums 70 = .ok (.goto 4, 3) := by decide +kernel
theorem dX13_sums_73 : decode cX13_sums 73 = .ok (.iconst 2, 1) := by decide +kernel
theorem dX13_sums_74 : decode cX13_sums 74 = .ok (.istore 8, 2) := by decide +kernel
theorem dX13_sums_76 : decode cX13_sums 76 = .ok (.dload 6, 2) := by decide +kernel
theorem dX13_sums_78 : decode cX13_sums 78 = .ok (.dload_n 2, 1) := by decide +kernel
theorem dX13_sums_79 : decode cX13_sums 79 = .ok (.invokestatic 550, 3) := by decide +kernel
theorem dX13_sums_82 : decode cX13_sums 82 = .ok (.ifCond .ne 13, 3) := by decide +kernel
theorem dX13_sums_85 : decode cX13_sums 85 = .ok (.dload 6, 2) := by decide +kernel
theorem dX13_sums_87 : decode cX13_sums 87 = .ok (.dload 4, 2) := by decide +kernel
theorem dX13_sums_89 : decode cX13_sums 89 = .ok (.invokestatic 550, 3) := by decide +kernel
theorem dX13_sums_92 : decode cX13_sums 92 = .ok (.ifCond .eq 8, 3) := by decide +kernel
theorem dX13_sums_95 : decode cX13_sums 95 = .ok (.iload 8, 2) := by decide +kernel
theorem dX13_sums_97 : decode cX13_sums 97 = .ok (.goto 7, 3) := by decide +kernel
theorem dX13_sums_100 : decode cX13_sums 100 = .ok (.iload 8, 2) := by decide +kernel
theorem dX13_sums_102 : decode cX13_sums 102 = .ok (.iconst 1, 1) := by decide +kernel
theorem dX13_sums_103 : decode cX13_sums 103 = .ok (.iadd, 1) := by decide +kernel
theorem dX13_sums_104 : decode cX13_sums 104 = .ok (.ireturn, 1) := by decide +kernel
def pX13_sums_b95 (g : MT) (this : Nat) (p1 : Int32) (l8 : Int32) (h : CT) : Option ((Int32) × CT) := some (l8, h)
set_option maxRecDepth 10000 in
set_option maxHeartbeats 4000000 in
theorem pX13_sums_b95_ok {X : Cx} {G : Gx} {dk : Nat} {g : MT} {r0 : Int32} {h0 : CT} {this : Nat} {p1 : Int32} (Z : Zx X G cX13_sums RX13 9 dk (some .int) (some (.int r0)) g h0) (hK : 3 ≤ dk) (t0 : gT g this = 12) (l8 : Int32) (h : CT) (hf : pX13_sums_b95 g this p1 l8 h = some (r0, h0)) : J X g h 95 [(8, .int l8)] [] := by
  unfold pX13_sums_b95 at hf
  refine J_iload Z.1 0 dX13_sums_95 rfl ?_
  refine J_goto Z.1 104 dX13_sums_97 (by decide) ?_
  cases hf
  exact J_iret Z.1 Z.2.2.2.2.2 dX13_sums_104
def pX13_sums_b74 (g : MT) (this : Nat) (p1 : Int32) (l2 : UInt64) (l4 : UInt64) (l6 : UInt64) (s0 : Int32) (h : CT) : Option ((Int32) × CT) := if (pX13_areAlike l6 l2) = 0 then if (pX13_areAlike l6 l4) = 0 then some ((s0 + 1), h) else pX13_sums_b95 g this p1  s0 h else pX13_sums_b95 g this p1  s0 h
set_option maxRecDepth 10000 in
set_option maxHeartbeats 4000000 in
theorem pX13_sums_b74_ok {X : Cx} {G : Gx} {dk : Nat} {g : MT} {r0 : Int32} {h0 : CT} {this : Nat} {p1 : Int32} (Z : Zx X G cX13_sums RX13 9 dk (some .int) (some (.int r0)) g h0) (hK : 3 ≤ dk) (t0 : gT g this = 12) (l2 : UInt64) (l4 : UInt64) (l6 : UInt64) (s0 : Int32) (h : CT) (hf : pX13_sums_b74 g this p1 l2 l4 l6 s0 h = some (r0, h0)) : J X g h 74 [(2, .double l2), (4, .double l4), (6, .double l6)] [.int s0] := by
  unfold pX13_sums_b74 at hf
  refine J_istore Z.1 (lv2 := [(8, .int s0), (2, .double l2), (4, .double l4), (6, .double l6)]) dX13_sums_74 (zL Z (by decide)) rfl ?_
  refine J_dload Z.1 3 dX13_sums_76 rfl ?_
  refine J_dload_n Z.1 1 dX13_sums_78 rfl rfl ?_
  refine J_callS (as := [.double l6, .double l2]) (rest := []) (sy := [.int (pX13_areAlike l6 l2)]) Z.1 dX13_sums_79 cw_X13_550 (pX13_areAlike_ok G (dk - 1) (by omega) g h l6 l2) (zG Z) rfl (by decide) (zF Z (by omega)) (zO Z (by omega) (by decide)) (zM _) Z.2.1 Z.2.1 rfl rfl ?_
  refine J_if_ne Z.1 95 dX13_sums_82 (by decide) (fun c1 => ?_) (fun c1 => ?_)
  · rw [if_neg c1] at hf
    refine J_lv [0] rfl ?_
    exact pX13_sums_b95_ok Z hK t0  _ _ hf
  · rw [if_pos c1] at hf
    refine J_dload Z.1 3 dX13_sums_85 rfl ?_
    refine J_dload Z.1 2 dX13_sums_87 rfl ?_
    refine J_callS (as := [.double l6, .double l4]) (rest := []) (sy := [.int (pX13_areAlike l6 l4)]) Z.1 dX13_sums_89 cw_X13_550 (pX13_areAlike_ok G (dk - 1) (by omega) g h l6 l4) (zG Z) rfl (by decide) (zF Z (by omega)) (zO Z (by omega) (by decide)) (zM _) Z.2.1 Z.2.1 rfl rfl ?_
    refine J_if_eq Z.1 100 dX13_sums_92 (by decide) (fun c2 => ?_) (fun c2 => ?_)
    · rw [if_pos c2] at hf
      refine J_iload Z.1 0 dX13_sums_100 rfl ?_
      refine J_iconst Z.1 (v := 1) (by decide) dX13_sums_102 ?_
      refine J_iadd Z.1 dX13_sums_103 ?_
      cases hf
      exact J_iret Z.1 Z.2.2.2.2.2 dX13_sums_104
    · rw [if_neg c2] at hf
      refine J_lv [0] rfl ?_
      exact pX13_sums_b95_ok Z hK t0  _ _ hf
def pX13_sums (g : MT) (h : CT) (this : Nat) (p1 : Int32) : Option ((Int32) × CT) := tg g this 12 (lt (sI h this 1 0) fun h1 => (lt (sI h1 this 0 0) fun h2 => (if (pX13_isRow p1) = 0 then bd2 (pX13_refuse g h2 this 2) fun x22 h20 => (some (x22, h20)) else bd (pX13_misses g h2 this p1) fun x4 => (if x4 = 0 then bd2 (pX13_summed g h2 this p1 0) fun x9 h7 => (bd2 (pX13_summed g h7 this p1 1) fun x12 h10 => (bd2 (pX13_summed g h10 this p1 2) fun x15 h13 => (if (pX13_areAlike x9 x12) = 0 then pX13_sums_b74 g this p1  x9 x12 x15 2 h13 else pX13_sums_b74 g this p1  x9 x12 x15 1 h13))) else bd2 (pX13_refuse g h2 this 3) fun x19 h17 => (some (x19, h17))))))
set_option maxRecDepth 10000 in
set_option maxHeartbeats 4000000 in
theorem pX13_sums_ok (G : Gx) (dk : Nat) (hK : 3 ≤ dk) {g : MT} {h h0 : CT} {this : Nat} {p1 : Int32} {r0 : Int32} (hf : pX13_sums g h this p1 = some (r0, h0)) : Ctr G dk yX13_sums cX13_sums 9 (some .int) [va_rf (some this), .int p1] g h (some (.int r0)) g h0 := by
  refine Ctr.ofZ (lv := [(0, va_rf (some this)), (1, .int p1)]) (by decide +kernel) (by simp [cat_i, cat_l, cat_d, cat_rf]) rfl fun X Z => ?_
  unfold pX13_sums at hf
  obtain ⟨t0, hf⟩ := tg_i hf
  refine J_aload_n Z.1 0 dX13_sums_0 rfl rfl ?_
  refine J_iconst Z.1 (v := 0) (by decide) dX13_sums_1 ?_
  refine J_putI Z.1 dX13_sums_2 fl_X13_71 (fun q => by cases q) t0 rfl rfl (congrArg Value.int (hI_s _ _ _ _)) ?_
  refine J_th (fun h1 eh1 => ?_)
  replace hf := lt_i hf h1 eh1
  refine J_aload_n Z.1 0 dX13_sums_5 rfl rfl ?_
  refine J_iconst Z.1 (v := 0) (by decide) dX13_sums_6 ?_
  refine J_putI Z.1 dX13_sums_7 fl_X13_74 (fun q => by cases q) t0 rfl rfl (congrArg Value.int (hI_s _ _ _ _)) ?_
  refine J_th (fun h2 eh2 => ?_)
  replace hf := lt_i hf h2 eh2
  refine J_iload_n Z.1 1 dX13_sums_10 rfl rfl ?_
  refine J_callS (as := [.int p1]) (rest := []) (sy := [.int (pX13_isRow p1)]) Z.1 dX13_sums_11 cw_X13_281 (pX13_isRow_ok G (dk - 1) (by omega) g h2 p1) (zG Z) rfl (by decide) (zF Z (by omega)) (zO Z (by omega) (by decide)) (zM _) Z.2.1 Z.2.1 rfl rfl ?_
  refine J_if_ne Z.1 23 dX13_sums_14 (by decide) (fun c3 => ?_) (fun c3 => ?_)
  · rw [if_neg c3] at hf
    refine J_aload_n Z.1 0 dX13_sums_23 rfl rfl ?_
    refine J_iload_n Z.1 1 dX13_sums_24 rfl rfl ?_
    obtain ⟨x4, q5, hf⟩ := bd_i hf
    refine J_callV (ci := 11) (as := [.int p1]) (rest := []) (sy := [.int x4]) Z.1 dX13_sums_25 cw_X13_386 (pX13_misses_ok G (dk - 1) (by omega) q5) rfl rfl t0 (zG Z) rfl (by decide) (zF Z (by omega)) (zO Z (by omega) (by decide)) (zM _) Z.2.1 Z.2.1 rfl rfl ?_
    refine J_if_eq Z.1 37 dX13_sums_28 (by decide) (fun c6 => ?_) (fun c6 => ?_)
    · rw [if_pos c6] at hf
      refine J_aload_n Z.1 0 dX13_sums_37 rfl rfl ?_
      refine J_iload_n Z.1 1 dX13_sums_38 rfl rfl ?_
      refine J_iconst Z.1 (v := 0) (by decide) dX13_sums_39 ?_
      obtain ⟨x9, h7, q8, hf⟩ := bd2_i hf
      refine J_callV (ci := 11) (as := [.int p1, .int 0]) (rest := []) (sy := [.double x9]) Z.1 dX13_sums_40 cw_X13_547 (pX13_summed_ok G (dk - 1) (by omega) q8) rfl rfl t0 (zG Z) rfl (by decide) (zF Z (by omega)) (zO Z (by omega) (by decide)) (zM _) Z.2.1 Z.2.1 rfl rfl ?_
      refine J_dstore_n Z.1 (lv2 := [(2, .double x9), (0, va_rf (some this)), (1, .int p1)]) dX13_sums_43 rfl (zL Z (by decide)) rfl ?_
      refine J_aload_n Z.1 1 dX13_sums_44 rfl rfl ?_
      refine J_iload_n Z.1 2 dX13_sums_45 rfl rfl ?_
      refine J_iconst Z.1 (v := 1) (by decide) dX13_sums_46 ?_
      obtain ⟨x12, h10, q11, hf⟩ := bd2_i hf
      refine J_callV (ci := 11) (as := [.int p1, .int 1]) (rest := []) (sy := [.double x12]) Z.1 dX13_sums_47 cw_X13_547 (pX13_summed_ok G (dk - 1) (by omega) q11) rfl rfl t0 (zG Z) rfl (by decide) (zF Z (by omega)) (zO Z (by omega) (by decide)) (zM _) Z.2.1 Z.2.1 rfl rfl ?_
      refine J_dstore Z.1 (lv2 := [(4, .double x12), (2, .double x9), (0, va_rf (some this)), (1, .int p1)]) dX13_sums_50 (zL Z (by decide)) rfl ?_
      refine J_aload_n Z.1 2 dX13_sums_52 rfl rfl ?_
      refine J_iload_n Z.1 3 dX13_sums_53 rfl rfl ?_
      refine J_iconst Z.1 (v := 2) (by decide) dX13_sums_54 ?_
      obtain ⟨x15, h13, q14, hf⟩ := bd2_i hf
      refine J_callV (ci := 11) (as := [.int p1, .int 2]) (rest := []) (sy := [.double x15]) Z.1 dX13_sums_55 cw_X13_547 (pX13_summed_ok G (dk - 1) (by omega) q14) rfl rfl t0 (zG Z) rfl (by decide) (zF Z (by omega)) (zO Z (by omega) (by decide)) (zM _) Z.2.1 Z.2.1 rfl rfl ?_
      refine J_dstore Z.1 (lv2 := [(6, .double x15), (4, .double x12), (2, .double x9), (0, va_rf (some this)), (1, .int p1)]) dX13_sums_58 (zL Z (by decide)) rfl ?_
      refine J_dload_n Z.1 2 dX13_sums_60 rfl rfl ?_
      refine J_dload Z.1 1 dX13_sums_61 rfl ?_
      refine J_callS (as := [.double x9, .double x12]) (rest := []) (sy := [.int (pX13_areAlike x9 x12)]) Z.1 dX13_sums_63 cw_X13_550 (pX13_areAlike_ok G (dk - 1) (by omega) g h13 x9 x12) (zG Z) rfl (by decide) (zF Z (by omega)) (zO Z (by omega) (by decide)) (zM _) Z.2.1 Z.2.1 rfl rfl ?_
      refine J_if_eq Z.1 73 dX13_sums_66 (by decide) (fun c16 => ?_) (fun c16 => ?_)
      · rw [if_pos c16] at hf
        refine J_iconst Z.1 (v := 2) (by decide) dX13_sums_73 ?_
        refine J_lv [2, 1, 0] rfl ?_
        exact pX13_sums_b74_ok Z hK t0  _ _ _ _ _ hf
      · rw [if_neg c16] at hf
        refine J_iconst Z.1 (v := 1) (by decide) dX13_sums_69 ?_
        refine J_goto Z.1 74 dX13_sums_70 (by decide) ?_
        refine J_lv [2, 1, 0] rfl ?_
        exact pX13_sums_b74_ok Z hK t0  _ _ _ _ _ hf
    · rw [if_neg c6] at hf
      refine J_aload_n Z.1 0 dX13_sums_31 rfl rfl ?_
      refine J_iconst Z.1 (v := 3) (by decide) dX13_sums_32 ?_
      obtain ⟨x19, h17, q18, hf⟩ := bd2_i hf
      refine J_callV (ci := 11) (as := [.int 3]) (rest := []) (sy := [.int x19]) Z.1 dX13_sums_33 cw_X13_268 (pX13_refuse_ok G (dk - 1) (by omega) q18) rfl rfl t0 (zG Z) rfl (by decide) (zF Z (by omega)) (zO Z (by omega) (by decide)) (zM _) Z.2.1 Z.2.1 rfl rfl ?_
      cases hf
      exact J_iret Z.1 Z.2.2.2.2.2 dX13_sums_36
  · rw [if_pos c3] at hf
    refine J_aload_n Z.1 0 dX13_sums_17 rfl rfl ?_
    refine J_iconst Z.1 (v := 2) (by decide) dX13_sums_18 ?_
    obtain ⟨x22, h20, q21, hf⟩ := bd2_i hf
    refine J_callV (ci := 11) (as := [.int 2]) (rest := []) (sy := [.int x22]) Z.1 dX13_sums_19 cw_X13_268 (pX13_refuse_ok G (dk - 1) (by omega) q21) rfl rfl t0 (zG Z) rfl (by decide) (zF Z (by omega)) (zO Z (by omega) (by decide)) (zM _) Z.2.1 Z.2.1 rfl rfl ?_
    cases hf
    exact J_iret Z.1 Z.2.2.2.2.2 dX13_sums_22
theorem dX13_laysRound_0 : decode cX13_laysRound 0 = .ok (.iload_n 1, 1) := by decide +kernel
theorem dX13_laysRound_1 : decode cX13_laysRound 1 = .ok (.istore_n 3, 1) := by decide +kernel
theorem dX13_laysRound_2 : decode cX13_laysRound 2 = .ok (.aload_n 0, 1) := by decide +kernel
theorem dX13_laysRound_3 : decode cX13_laysRound 3 = .ok (.iconst 0, 1) := by decide +kernel
theorem dX13_laysRound_4 : decode cX13_laysRound 4 = .ok (.putfield 554, 3) := by decide +kernel
theorem dX13_laysRound_7 : decode cX13_laysRound 7 = .ok (.iload_n 2, 1) := by decide +kernel
theorem dX13_laysRound_8 : decode cX13_laysRound 8 = .ok (.iload_n 3, 1) := by decide +kernel
theorem dX13_laysRound_9 : decode cX13_laysRound 9 = .ok (.iconst 1, 1) := by decide +kernel
theorem dX13_laysRound_10 : decode cX13_laysRound 10 = .ok (.iadd, 1) := by decide +kernel
theorem dX13_laysRound_11 : decode cX13_laysRound 11 = .ok (.iconst 2, 1) := by decide +kernel
theorem dX13_laysRound_12 : decode cX13_laysRound 12 = .ok (.idiv, 1) := by decide +kernel
theorem dX13_laysRound_13 : decode cX13_laysRound 13 = .ok (.if_icmp .ge 22, 3) := by decide +kernel
theorem dX13_laysRound_16 : decode cX13_laysRound 16 = .ok (.iload_n 3, 1) := by decide +kernel
theorem dX13_laysRound_17 : decode cX13_laysRound 17 = .ok (.iconst 1, 1) := by decide +kernel
theorem dX13_laysRound_18 : decode cX13_laysRound 18 = .ok (.iadd, 1) := by decide +kernel
theorem dX13_laysRound_19 : decode cX13_laysRound 19 = .ok (.iconst 2, 1) := by decide +kernel
theorem dX13_laysRound_20 : decode cX13_laysRound 20 = .ok (.idiv, 1) := by decide +kernel
theorem dX13_laysRound_21 : decode cX13_laysRound 21 = .ok (.istore_n 3, 1) := by decide +kernel
theorem dX13_laysRound_22 : decode cX13_laysRound 22 = .ok (.aload_n 0, 1) := by decide +kernel
theorem dX13_laysRound_23 : decode cX13_laysRound 23 = .ok (.dup, 1) := by decide +kernel
theorem dX13_laysRound_24 : decode cX13_laysRound 24 = .ok (.getfield 554, 3) := by decide +kernel
theorem dX13_laysRound_27 : decode cX13_laysRound 27 = .ok (.iconst 1, 1) := by decide +kernel
theorem dX13_laysRound_28 : decode cX13_laysRound 28 = .ok (.iadd, 1) := by decide +kernel
theorem dX13_laysRound_29 : decode cX13_laysRound 29 = .ok (.putfield 554, 3) := by decide +kernel
theorem dX13_laysRound_32 : decode cX13_laysRound 32 = .ok (.goto (-25), 3) := by decide +kernel
theorem dX13_laysRound_35 : decode cX13_laysRound 35 = .ok (.aload_n 0, 1) := by decide +kernel
theorem dX13_laysRound_36 : decode cX13_laysRound 36 = .ok (.iload_n 2, 1) := by decide +kernel
theorem dX13_laysRound_37 : decode cX13_laysRound 37 = .ok (.iload_n 3, 1) := by decide +kernel
theorem dX13_laysRound_38 : decode cX13_laysRound 38 = .ok (.iconst 1, 1) := by decide +kernel
theorem dX13_laysRound_39 : decode cX13_laysRound 39 = .ok (.iadd, 1) := by decide +kernel
theorem dX13_laysRound_40 : decode cX13_laysRound 40 = .ok (.iconst 2, 1) := by decide +kernel
theorem dX13_laysRound_41 : decode cX13_laysRound 41 = .ok (.idiv, 1) := by decide +kernel
theorem dX13_laysRound_42 : decode cX13_laysRound 42 = .ok (.isub, 1) := by decide +kernel
theorem dX13_laysRound_43 : decode cX13_laysRound 43 = .ok (.putfield 557, 3) := by decide +kernel
theorem dX13_laysRound_46 : decode cX13_laysRound 46 = .ok (.return_, 1) := by decide +kernel
def pX13_laysRound_b7 (g : MT) (this : Nat) (p1 : Int32) (p2 : Int32) (k7 : Int32 → CT → Option CT) (l3 : Int32) (h : CT) : Option CT := if ((l3 + 1) / 2) ≤ p2 then lt (sI h this 49 (p2 - ((l3 + 1) / 2))) fun h2 => (some h2) else lt ((l3 + 1) / 2) fun x3 => (lt (sI h this 48 ((hI h this 48) + 1)) fun h4 => (k7 x3 h4))
set_option maxRecDepth 10000 in
set_option maxHeartbeats 4000000 in
theorem pX13_laysRound_b7_ok {X : Cx} {G : Gx} {dk : Nat} {g : MT} {h0 : CT} {this : Nat} {p1 : Int32} {p2 : Int32} {k7 : Int32 → CT → Option CT} (Z : Zx X G cX13_laysRound RX13 4 dk none none g h0) (hK : 0 ≤ dk) (t0 : gT g this = 12) (hk7 : ∀ (l3 : Int32) (h : CT), k7 l3 h = some h0 → J X g h 7 [(0, va_rf (some this)), (2, .int p2), (3, .int l3)] []) (l3 : Int32) (h : CT) (hf : pX13_laysRound_b7 g this p1 p2 k7 l3 h = some h0) : J X g h 7 [(0, va_rf (some this)), (2, .int p2), (3, .int l3)] [] := by
  unfold pX13_laysRound_b7 at hf
  refine J_iload_n Z.1 1 dX13_laysRound_7 rfl rfl ?_
  refine J_iload_n Z.1 2 dX13_laysRound_8 rfl rfl ?_
  refine J_iconst Z.1 (v := 1) (by decide) dX13_laysRound_9 ?_
  refine J_iadd Z.1 dX13_laysRound_10 ?_
  refine J_iconst Z.1 (v := 2) (by decide) dX13_laysRound_11 ?_
  refine J_idiv Z.1 (by decide) dX13_laysRound_12 ?_
  refine J_icmp_ge Z.1 35 dX13_laysRound_13 (by decide) (fun c1 => ?_) (fun c1 => ?_)
  · rw [if_pos c1] at hf
    refine J_aload_n Z.1 0 dX13_laysRound_35 rfl rfl ?_
    refine J_iload_n Z.1 1 dX13_laysRound_36 rfl rfl ?_
    refine J_iload_n Z.1 2 dX13_laysRound_37 rfl rfl ?_
    refine J_iconst Z.1 (v := 1) (by decide) dX13_laysRound_38 ?_
    refine J_iadd Z.1 dX13_laysRound_39 ?_
    refine J_iconst Z.1 (v := 2) (by decide) dX13_laysRound_40 ?_
    refine J_idiv Z.1 (by decide) dX13_laysRound_41 ?_
    refine J_isub Z.1 dX13_laysRound_42 ?_
    refine J_putI Z.1 dX13_laysRound_43 fl_X13_557 (fun q => by cases q) t0 rfl rfl (congrArg Value.int (hI_s _ _ _ _)) ?_
    refine J_th (fun h2 eh2 => ?_)
    replace hf := lt_i hf h2 eh2
    cases hf
    exact J_vret Z.1 Z.2.2.2.2.2 dX13_laysRound_46
  · rw [if_neg c1] at hf
    refine J_iload_n Z.1 2 dX13_laysRound_16 rfl rfl ?_
    refine J_iconst Z.1 (v := 1) (by decide) dX13_laysRound_17 ?_
    refine J_iadd Z.1 dX13_laysRound_18 ?_
    refine J_iconst Z.1 (v := 2) (by decide) dX13_laysRound_19 ?_
    refine J_idiv Z.1 (by decide) dX13_laysRound_20 ?_
    refine J_ti (fun x3 ex3 => ?_)
    replace hf := lt_i hf x3 ex3
    refine J_istore_n Z.1 (lv2 := [(3, .int x3), (0, va_rf (some this)), (2, .int p2)]) dX13_laysRound_21 rfl (zL Z (by decide)) rfl ?_
    refine J_aload_n Z.1 1 dX13_laysRound_22 rfl rfl ?_
    refine J_dup Z.1 dX13_laysRound_23 rfl ?_
    refine J_get (v := .int (hI h this 48)) Z.1 dX13_laysRound_24 fl_X13_554 t0 rfl ?_
    refine J_iconst Z.1 (v := 1) (by decide) dX13_laysRound_27 ?_
    refine J_iadd Z.1 dX13_laysRound_28 ?_
    refine J_putI Z.1 dX13_laysRound_29 fl_X13_554 (fun q => by cases q) t0 rfl rfl (congrArg Value.int (hI_s _ _ _ _)) ?_
    refine J_th (fun h4 eh4 => ?_)
    replace hf := lt_i hf h4 eh4
    refine J_goto Z.1 7 dX13_laysRound_32 (by decide) ?_
    refine J_lv [1, 2, 0] rfl ?_
    exact hk7 _ _ hf
def pX13_laysRound_l7 (g : MT) (this : Nat) (p1 : Int32) (p2 : Int32) : Nat → Int32 → CT → Option CT
  | 0, _, _ => none
  | n + 1, l3, h => pX13_laysRound_b7 g this p1 p2 (pX13_laysRound_l7 g this p1 p2 n) l3 h
theorem pX13_laysRound_l7_ok {X : Cx} {G : Gx} {dk : Nat} {g : MT} {h0 : CT} {this : Nat} {p1 : Int32} {p2 : Int32} (Z : Zx X G cX13_laysRound RX13 4 dk none none g h0) (hK : 0 ≤ dk) (t0 : gT g this = 12) : ∀ (n : Nat) (l3 : Int32) (h : CT), pX13_laysRound_l7 g this p1 p2 n l3 h = some h0 → J X g h 7 [(0, va_rf (some this)), (2, .int p2), (3, .int l3)] [] := by
  intro n
  induction n with
  | zero => intro l3 h hf; cases hf
  | succ n ih => intro l3 h hf; exact pX13_laysRound_b7_ok Z hK t0 ih l3 h hf
def pX13_laysRound (g : MT) (h : CT) (this : Nat) (p1 : Int32) (p2 : Int32) : Option CT := tg g this 12 (lt (sI h this 48 0) fun h1 => (pX13_laysRound_l7 g this p1 p2  FUEL p1 h1))
set_option maxRecDepth 10000 in
set_option maxHeartbeats 4000000 in
theorem pX13_laysRound_ok (G : Gx) (dk : Nat) (hK : 0 ≤ dk) {g : MT} {h h0 : CT} {this : Nat} {p1 : Int32} {p2 : Int32} (hf : pX13_laysRound g h this p1 p2 = some h0) : Ctr G dk yX13_laysRound cX13_laysRound 4 none [va_rf (some this), .int p1, .int p2] g h none g h0 := by
  refine Ctr.ofZ (lv := [(0, va_rf (some this)), (1, .int p1), (2, .int p2)]) (by decide +kernel) (by simp [cat_i, cat_l, cat_d, cat_rf]) rfl fun X Z => ?_
  unfold pX13_laysRound at hf
  obtain ⟨t0, hf⟩ := tg_i hf
  refine J_iload_n Z.1 1 dX13_laysRound_0 rfl rfl ?_
  refine J_istore_n Z.1 (lv2 := [(3, .int p1), (0, va_rf (some this)), (1, .int p1), (2, .int p2)]) dX13_laysRound_1 rfl (zL Z (by decide)) rfl ?_
  refine J_aload_n Z.1 1 dX13_laysRound_2 rfl rfl ?_
  refine J_iconst Z.1 (v := 0) (by decide) dX13_laysRound_3 ?_
  refine J_putI Z.1 dX13_laysRound_4 fl_X13_554 (fun q => by cases q) t0 rfl rfl (congrArg Value.int (hI_s _ _ _ _)) ?_
  refine J_th (fun h1 eh1 => ?_)
  replace hf := lt_i hf h1 eh1
  refine J_lv [1, 3, 0] rfl ?_
  exact pX13_laysRound_l7_ok Z hK t0  FUEL _ _ hf
theorem dX13_whyNoRound_0 : decode cX13_whyNoRound 0 = .ok (.iload_n 2, 1) := by decide +kernel
theorem dX13_whyNoRound_1 : decode cX13_whyNoRound 1 = .ok (.i2l, 1) := by decide +kernel
theorem dX13_whyNoRound_2 : decode cX13_whyNoRound 2 = .ok (.lconst 0, 1) := by decide +kernel
theorem dX13_whyNoRound_3 : decode cX13_whyNoRound 3 = .ok (.iload_n 1, 1) := by decide +kernel
theorem dX13_whyNoRound_4 : decode cX13_whyNoRound 4 = .ok (.i2l, 1) := by decide +kernel
theorem dX13_whyNoRound_5 : decode cX13_whyNoRound 5 = .ok (.lconst 1, 1) := by decide +kernel
theorem dX13_whyNoRound_6 : decode cX13_whyNoRound 6 = .ok (.lsub, 1) := by decide +kernel
theorem dX13_whyNoRound_7 : decode cX13_whyNoRound 7 = .ok (.invokestatic 104, 3) := by decide +kernel
theorem dX13_whyNoRound_10 : decode cX13_whyNoRound 10 = .ok (.ifCond .ne 5, 3) := by decide +kernel
theorem dX13_whyNoRound_13 : decode cX13_whyNoRound 13 = .ok (.iconst 2, 1) := by decide +kernel
theorem dX13_whyNoRound_14 : decode cX13_whyNoRound 14 = .ok (.ireturn, 1) := by decide +kernel
theorem dX13_whyNoRound_15 : decode cX13_whyNoRound 15 = .ok (.iload_n 1, 1) := by decide +kernel
theorem dX13_whyNoRound_16 : decode cX13_whyNoRound 16 = .ok (.i2l, 1) := by decide +kernel
theorem dX13_whyNoRound_17 : decode cX13_whyNoRound 17 = .ok (.lconst 1, 1) := by decide +kernel
theorem dX13_whyNoRound_18 : decode cX13_whyNoRound 18 = .ok (.ldc2_w 560, 3) := by decide +kernel
theorem dX13_whyNoRound_21 : decode cX13_whyNoRound 21 = .ok (.invokestatic 104, 3) := by decide +kernel
theorem dX13_whyNoRound_24 : decode cX13_whyNoRound 24 = .ok (.ifCond .ne 7, 3) := by decide +kernel
theorem dX13_whyNoRound_27 : decode cX13_whyNoRound 27 = .ok (.iconst 5, 1) := by decide +kernel
theorem dX13_whyNoRound_28 : decode cX13_whyNoRound 28 = .ok (.goto 13, 3) := by decide +kernel
theorem dX13_whyNoRound_31 : decode cX13_whyNoRound 31 = .ok (.iload_n 2, 1) := by decide +kernel
theorem dX13_whyNoRound_32 : decode cX13_whyNoRound 32 = .ok (.ifCond .ne 8, 3) := by decide +kernel
theorem dX13_whyNoRound_35 : decode cX13_whyNoRound 35 = .ok (.bipush 8, 2) := by decide +kernel
theorem dX13_whyNoRound_37 : decode cX13_whyNoRound 37 = .ok (.goto 4, 3) := by decide +kernel
theorem dX13_whyNoRound_40 : decode cX13_whyNoRound 40 = .ok (.iconst 0, 1) := by decide +kernel
theorem dX13_whyNoRound_41 : decode cX13_whyNoRound 41 = .ok (.ireturn, 1) := by decide +kernel
def pX13_whyNoRound (this : Nat) (p1 : Int32) (p2 : Int32) : Int32 := if (pX13_isIn (Int32.toInt64 p2) 0 ((Int32.toInt64 p1) - 1)) = 0 then 2 else if (pX13_isIn (Int32.toInt64 p1) 1 16) = 0 then 5 else if p2 = 0 then 8 else 0
set_option maxRecDepth 10000 in
set_option maxHeartbeats 4000000 in
theorem pX13_whyNoRound_ok (G : Gx) (dk : Nat) (hK : 1 ≤ dk) (g : MT) (h0 : CT) (this : Nat) (p1 : Int32) (p2 : Int32) : Ctr G dk yX13_whyNoRound cX13_whyNoRound 3 (some .int) [va_rf (some this), .int p1, .int p2] g h0 (some (.int (pX13_whyNoRound this p1 p2))) g h0 := by
  obtain ⟨r0, hf⟩ : ∃ z, pX13_whyNoRound this p1 p2 = z := ⟨_, rfl⟩
  rw [hf]
  refine Ctr.ofZ (lv := [(0, va_rf (some this)), (1, .int p1), (2, .int p2)]) (by decide +kernel) (by simp [cat_i, cat_l, cat_d, cat_rf]) rfl fun X Z => ?_
  unfold pX13_whyNoRound at hf
  refine J_iload_n Z.1 2 dX13_whyNoRound_0 rfl rfl ?_
  refine J_i2l Z.1 dX13_whyNoRound_1 ?_
  refine J_lconst Z.1 (v := 0) (by decide) dX13_whyNoRound_2 ?_
  refine J_iload_n Z.1 1 dX13_whyNoRound_3 rfl rfl ?_
  refine J_i2l Z.1 dX13_whyNoRound_4 ?_
  refine J_lconst Z.1 (v := 1) (by decide) dX13_whyNoRound_5 ?_
  refine J_lsub Z.1 dX13_whyNoRound_6 ?_
  refine J_callS (as := [.long (Int32.toInt64 p2), .long 0, .long ((Int32.toInt64 p1) - 1)]) (rest := []) (sy := [.int (pX13_isIn (Int32.toInt64 p2) 0 ((Int32.toInt64 p1) - 1))]) Z.1 dX13_whyNoRound_7 cw_X13_104 (pX13_isIn_ok G (dk - 1) (by omega) g h0 (Int32.toInt64 p2) 0 ((Int32.toInt64 p1) - 1)) (zG Z) rfl (by decide) (zF Z (by omega)) (zO Z (by omega) (by decide)) (zM _) Z.2.1 Z.2.1 rfl rfl ?_
  refine J_if_ne Z.1 15 dX13_whyNoRound_10 (by decide) (fun c1 => ?_) (fun c1 => ?_)
  · rw [if_neg c1] at hf
    refine J_iload_n Z.1 1 dX13_whyNoRound_15 rfl rfl ?_
    refine J_i2l Z.1 dX13_whyNoRound_16 ?_
    refine J_lconst Z.1 (v := 1) (by decide) dX13_whyNoRound_17 ?_
    refine J_ldc2 Z.1 q_2086 dX13_whyNoRound_18 ?_
    refine J_callS (as := [.long (Int32.toInt64 p1), .long 1, .long 16]) (rest := []) (sy := [.int (pX13_isIn (Int32.toInt64 p1) 1 16)]) Z.1 dX13_whyNoRound_21 cw_X13_104 (pX13_isIn_ok G (dk - 1) (by omega) g h0 (Int32.toInt64 p1) 1 16) (zG Z) rfl (by decide) (zF Z (by omega)) (zO Z (by omega) (by decide)) (zM _) Z.2.1 Z.2.1 rfl rfl ?_
    refine J_if_ne Z.1 31 dX13_whyNoRound_24 (by decide) (fun c2 => ?_) (fun c2 => ?_)
    · rw [if_neg c2] at hf
      refine J_iload_n Z.1 2 dX13_whyNoRound_31 rfl rfl ?_
      refine J_if_ne Z.1 40 dX13_whyNoRound_32 (by decide) (fun c3 => ?_) (fun c3 => ?_)
      · rw [if_neg c3] at hf
        refine J_iconst Z.1 (v := 0) (by decide) dX13_whyNoRound_40 ?_
        cases hf
        exact J_iret Z.1 Z.2.2.2.2.2 dX13_whyNoRound_41
      · rw [if_pos c3] at hf
        refine J_bipush Z.1 (v := 8) (by decide) dX13_whyNoRound_35 ?_
        refine J_goto Z.1 41 dX13_whyNoRound_37 (by decide) ?_
        cases hf
        exact J_iret Z.1 Z.2.2.2.2.2 dX13_whyNoRound_41
    · rw [if_pos c2] at hf
      refine J_iconst Z.1 (v := 5) (by decide) dX13_whyNoRound_27 ?_
      refine J_goto Z.1 41 dX13_whyNoRound_28 (by decide) ?_
      cases hf
      exact J_iret Z.1 Z.2.2.2.2.2 dX13_whyNoRound_41
  · rw [if_pos c1] at hf
    refine J_iconst Z.1 (v := 2) (by decide) dX13_whyNoRound_13 ?_
    cases hf
    exact J_iret Z.1 Z.2.2.2.2.2 dX13_whyNoRound_14
theorem dX13_roundOf_0 : decode cX13_roundOf 0 = .ok (.aload_n 0, 1) := by decide +kernel
theorem dX13_roundOf_1 : decode cX13_roundOf 1 = .ok (.iconst 0, 1) := by decide +kernel
theorem dX13_roundOf_2 : decode cX13_roundOf 2 = .ok (.putfield 71, 3) := by decide +kernel
theorem dX13_roundOf_5 : decode cX13_roundOf 5 = .ok (.aload_n 0, 1) := by decide +kernel
theorem dX13_roundOf_6 : decode cX13_roundOf 6 = .ok (.aload_n 0, 1) := by decide +kernel
theorem dX13_roundOf_7 : decode cX13_roundOf 7 = .ok (.iload_n 1, 1) := by decide +kernel
theorem dX13_roundOf_8 : decode cX13_roundOf 8 = .ok (.iload_n 2, 1) := by decide +kernel
theorem dX13_roundOf_9 : decode cX13_roundOf 9 = .ok (.invokevirtual 562, 3) := by decide +kernel
theorem dX13_roundOf_12 : decode cX13_roundOf 12 = .ok (.putfield 74, 3) := by decide +kernel
theorem dX13_roundOf_15 : decode cX13_roundOf 15 = .ok (.aload_n 0, 1) := by decide +kernel
theorem dX13_roundOf_16 : decode cX13_roundOf 16 = .ok (.getfield 74, 3) := by decide +kernel
theorem dX13_roundOf_19 : decode cX13_roundOf 19 = .ok (.ifCond .le 5, 3) := by decide +kernel
theorem dX13_roundOf_22 : decode cX13_roundOf 22 = .ok (.iconst (-1), 1) := by decide +kernel
theorem dX13_roundOf_23 : decode cX13_roundOf 23 = .ok (.ireturn, 1) := by decide +kernel
theorem dX13_roundOf_24 : decode cX13_roundOf 24 = .ok (.aload_n 0, 1) := by decide +kernel
theorem dX13_roundOf_25 : decode cX13_roundOf 25 = .ok (.iload_n 1, 1) := by decide +kernel
theorem dX13_roundOf_26 : decode cX13_roundOf 26 = .ok (.iload_n 2, 1) := by decide +kernel
theorem dX13_roundOf_27 : decode cX13_roundOf 27 = .ok (.invokevirtual 565, 3) := by decide +kernel
theorem dX13_roundOf_30 : decode cX13_roundOf 30 = .ok (.aload_n 0, 1) := by decide +kernel
theorem dX13_roundOf_31 : decode cX13_roundOf 31 = .ok (.getfield 554, 3) := by decide +kernel
theorem dX13_roundOf_34 : decode cX13_roundOf 34 = .ok (.ireturn, 1) := by decide +kernel
def pX13_roundOf (g : MT) (h : CT) (this : Nat) (p1 : Int32) (p2 : Int32) : Option ((Int32) × CT) := tg g this 12 (lt (sI h this 1 0) fun h1 => (lt (sI h1 this 0 (pX13_whyNoRound this p1 p2)) fun h2 => (if (hI h2 this 0) ≤ 0 then bd (pX13_laysRound g h2 this p1 p2) fun h4 => (some ((hI h4 this 48), h4)) else some ((-1), h2))))
set_option maxRecDepth 10000 in
set_option maxHeartbeats 4000000 in
theorem pX13_roundOf_ok (G : Gx) (dk : Nat) (hK : 2 ≤ dk) {g : MT} {h h0 : CT} {this : Nat} {p1 : Int32} {p2 : Int32} {r0 : Int32} (hf : pX13_roundOf g h this p1 p2 = some (r0, h0)) : Ctr G dk yX13_roundOf cX13_roundOf 3 (some .int) [va_rf (some this), .int p1, .int p2] g h (some (.int r0)) g h0 := by
  refine Ctr.ofZ (lv := [(0, va_rf (some this)), (1, .int p1), (2, .int p2)]) (by decide +kernel) (by simp [cat_i, cat_l, cat_d, cat_rf]) rfl fun X Z => ?_
  unfold pX13_roundOf at hf
  obtain ⟨t0, hf⟩ := tg_i hf
  refine J_aload_n Z.1 0 dX13_roundOf_0 rfl rfl ?_
  refine J_iconst Z.1 (v := 0) (by decide) dX13_roundOf_1 ?_
  refine J_putI Z.1 dX13_roundOf_2 fl_X13_71 (fun q => by cases q) t0 rfl rfl (congrArg Value.int (hI_s _ _ _ _)) ?_
  refine J_th (fun h1 eh1 => ?_)
  replace hf := lt_i hf h1 eh1
  refine J_aload_n Z.1 0 dX13_roundOf_5 rfl rfl ?_
  refine J_aload_n Z.1 0 dX13_roundOf_6 rfl rfl ?_
  refine J_iload_n Z.1 1 dX13_roundOf_7 rfl rfl ?_
  refine J_iload_n Z.1 2 dX13_roundOf_8 rfl rfl ?_
  refine J_callV (ci := 11) (as := [.int p1, .int p2]) (rest := [va_rf (some this)]) (sy := [.int (pX13_whyNoRound this p1 p2), va_rf (some this)]) Z.1 dX13_roundOf_9 cw_X13_562 (pX13_whyNoRound_ok G (dk - 1) (by omega) g h1 this p1 p2) rfl rfl t0 (zG Z) rfl (by simp [cat_i, cat_l, cat_d, cat_rf]) (zF Z (by omega)) (zO Z (by omega) (by decide)) (zM _) Z.2.1 Z.2.1 rfl rfl ?_
  refine J_putI Z.1 dX13_roundOf_12 fl_X13_74 (fun q => by cases q) t0 rfl rfl (congrArg Value.int (hI_s _ _ _ _)) ?_
  refine J_th (fun h2 eh2 => ?_)
  replace hf := lt_i hf h2 eh2
  refine J_aload_n Z.1 0 dX13_roundOf_15 rfl rfl ?_
  refine J_get (v := .int (hI h2 this 0)) Z.1 dX13_roundOf_16 fl_X13_74 t0 rfl ?_
  refine J_if_le Z.1 24 dX13_roundOf_19 (by decide) (fun c3 => ?_) (fun c3 => ?_)
  · rw [if_pos c3] at hf
    refine J_aload_n Z.1 0 dX13_roundOf_24 rfl rfl ?_
    refine J_iload_n Z.1 1 dX13_roundOf_25 rfl rfl ?_
    refine J_iload_n Z.1 2 dX13_roundOf_26 rfl rfl ?_
    obtain ⟨h4, q5, hf⟩ := bd_i hf
    refine J_callV (ci := 11) (as := [.int p1, .int p2]) (rest := []) (sy := []) Z.1 dX13_roundOf_27 cw_X13_565 (pX13_laysRound_ok G (dk - 1) (by omega) q5) rfl rfl t0 (zG Z) rfl (by decide) (zF Z (by omega)) (zO Z (by omega) (by decide)) (zM _) Z.2.1 Z.2.1 rfl rfl ?_
    refine J_aload_n Z.1 0 dX13_roundOf_30 rfl rfl ?_
    refine J_get (v := .int (hI h4 this 48)) Z.1 dX13_roundOf_31 fl_X13_554 t0 rfl ?_
    cases hf
    exact J_iret Z.1 Z.2.2.2.2.2 dX13_roundOf_34
  · rw [if_neg c3] at hf
    refine J_iconst Z.1 (v := (-1)) (by decide) dX13_roundOf_22 ?_
    cases hf
    exact J_iret Z.1 Z.2.2.2.2.2 dX13_roundOf_23
