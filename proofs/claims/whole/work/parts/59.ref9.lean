/-! written by wip/whole/gen.py out of the printed bytecode -/
theorem dX13_readSet_0 : decode cX13_readSet 0 = .ok (.aload_n 0, 1) := by decide +kernel
theorem dX13_readSet_1 : decode cX13_readSet 1 = .ok (.iload_n 1, 1) := by decide +kernel
theorem dX13_readSet_2 : decode cX13_readSet 2 = .ok (.iconst 0, 1) := by decide +kernel
theorem dX13_readSet_3 : decode cX13_readSet 3 = .ok (.invokevirtual 381, 3) := by decide +kernel
theorem dX13_readSet_6 : decode cX13_readSet 6 = .ok (.istore_n 2, 1) := by decide +kernel
theorem dX13_readSet_7 : decode cX13_readSet 7 = .ok (.iload_n 2, 1) := by decide +kernel
theorem dX13_readSet_8 : decode cX13_readSet 8 = .ok (.ifCond .ne 7, 3) := by decide +kernel
theorem dX13_readSet_11 : decode cX13_readSet 11 = .ok (.iconst 0, 1) := by decide +kernel
theorem dX13_readSet_12 : decode cX13_readSet 12 = .ok (.goto 6, 3) := by decide +kernel
theorem dX13_readSet_15 : decode cX13_readSet 15 = .ok (.sipush 4096, 3) := by decide +kernel
theorem dX13_readSet_18 : decode cX13_readSet 18 = .ok (.istore_n 3, 1) := by decide +kernel
theorem dX13_readSet_19 : decode cX13_readSet 19 = .ok (.iload_n 2, 1) := by decide +kernel
theorem dX13_readSet_20 : decode cX13_readSet 20 = .ok (.invokestatic 383, 3) := by decide +kernel
theorem dX13_readSet_23 : decode cX13_readSet 23 = .ok (.ifCond .eq 14, 3) := by decide +kernel
theorem dX13_readSet_26 : decode cX13_readSet 26 = .ok (.iload_n 3, 1) := by decide +kernel
theorem dX13_readSet_27 : decode cX13_readSet 27 = .ok (.iconst 1, 1) := by decide +kernel
theorem dX13_readSet_28 : decode cX13_readSet 28 = .ok (.aload_n 0, 1) := by decide +kernel
theorem dX13_readSet_29 : decode cX13_readSet 29 = .ok (.iload_n 1, 1) := by decide +kernel
theorem dX13_readSet_30 : decode cX13_readSet 30 = .ok (.iconst 2, 1) := by decide +kernel
theorem dX13_readSet_31 : decode cX13_readSet 31 = .ok (.invokevirtual 381, 3) := by decide +kernel
theorem dX13_readSet_34 : decode cX13_readSet 34 = .ok (.ishl, 1) := by decide +kernel
theorem dX13_readSet_35 : decode cX13_readSet 35 = .ok (.ior, 1) := by decide +kernel
theorem dX13_readSet_36 : decode cX13_readSet 36 = .ok (.istore_n 3, 1) := by decide +kernel
theorem dX13_readSet_37 : decode cX13_readSet 37 = .ok (.iload_n 2, 1) := by decide +kernel
theorem dX13_readSet_38 : decode cX13_readSet 38 = .ok (.invokestatic 389, 3) := by decide +kernel
theorem dX13_readSet_41 : decode cX13_readSet 41 = .ok (.ifCond .eq 14, 3) := by decide +kernel
theorem dX13_readSet_44 : decode cX13_readSet 44 = .ok (.iload_n 3, 1) := by decide +kernel
theorem dX13_readSet_45 : decode cX13_readSet 45 = .ok (.iconst 1, 1) := by decide +kernel
theorem dX13_readSet_46 : decode cX13_readSet 46 = .ok (.aload_n 0, 1) := by decide +kernel
theorem dX13_readSet_47 : decode cX13_readSet 47 = .ok (.iload_n 1, 1) := by decide +kernel
theorem dX13_readSet_48 : decode cX13_readSet 48 = .ok (.iconst 3, 1) := by decide +kernel
theorem dX13_readSet_49 : decode cX13_readSet 49 = .ok (.invokevirtual 381, 3) := by decide +kernel
theorem dX13_readSet_52 : decode cX13_readSet 52 = .ok (.ishl, 1) := by decide +kernel
theorem dX13_readSet_53 : decode cX13_readSet 53 = .ok (.ior, 1) := by decide +kernel
theorem dX13_readSet_54 : decode cX13_readSet 54 = .ok (.istore_n 3, 1) := by decide +kernel
theorem dX13_readSet_55 : decode cX13_readSet 55 = .ok (.iload_n 2, 1) := by decide +kernel
theorem dX13_readSet_56 : decode cX13_readSet 56 = .ok (.invokestatic 392, 3) := by decide +kernel
theorem dX13_readSet_59 : decode cX13_readSet 59 = .ok (.ifCond .ne 14, 3) := by decide +kernel
theorem dX13_readSet_62 : decode cX13_readSet 62 = .ok (.aload_n 0, 1) := by decide +kernel
theorem dX13_readSet_63 : decode cX13_readSet 63 = .ok (.iload_n 1, 1) := by decide +kernel
theorem dX13_readSet_64 : decode cX13_readSet 64 = .ok (.bipush 6, 2) := by decide +kernel
theorem dX13_readSet_66 : decode cX13_readSet 66 = .ok (.invokevirtual 381, 3) := by decide +kernel
theorem dX13_readSet_69 : decode cX13_readSet 69 = .ok (.iconst 1, 1) := by decide +kernel
theorem dX13_readSet_70 : decode cX13_readSet 70 = .ok (.if_icmp .ne 14, 3) := by decide +kernel
theorem dX13_readSet_73 : decode cX13_readSet 73 = .ok (.iload_n 3, 1) := by decide +kernel
theorem dX13_readSet_74 : decode cX13_readSet 74 = .ok (.iconst 1, 1) := by decide +kernel
theorem dX13_readSet_75 : decode cX13_readSet 75 = .ok (.aload_n 0, 1) := by decide +kernel
theorem dX13_readSet_76 : decode cX13_readSet 76 = .ok (.iload_n 1, 1) := by decide +kernel
theorem dX13_readSet_77 : decode cX13_readSet 77 = .ok (.iconst 1, 1) := by decide +kernel
theorem dX13_readSet_78 : decode cX13_readSet 78 = .ok (.invokevirtual 381, 3) := by decide +kernel
theorem dX13_readSet_81 : decode cX13_readSet 81 = .ok (.ishl, 1) := by decide +kernel
theorem dX13_readSet_82 : decode cX13_readSet 82 = .ok (.ior, 1) := by decide +kernel
theorem dX13_readSet_83 : decode cX13_readSet 83 = .ok (.istore_n 3, 1) := by decide +kernel
theorem dX13_readSet_84 : decode cX13_readSet 84 = .ok (.iload_n 2, 1) := by decide +kernel
theorem dX13_readSet_85 : decode cX13_readSet 85 = .ok (.iconst 2, 1) := by decide +kernel
theorem dX13_readSet_86 : decode cX13_readSet 86 = .ok (.if_icmp .ne 17, 3) := by decide +kernel
theorem dX13_readSet_89 : decode cX13_readSet 89 = .ok (.iload_n 3, 1) := by decide +kernel
theorem dX13_readSet_90 : decode cX13_readSet 90 = .ok (.iconst 1, 1) := by decide +kernel
theorem dX13_readSet_91 : decode cX13_readSet 91 = .ok (.bipush 6, 2) := by decide +kernel
theorem dX13_readSet_93 : decode cX13_readSet 93 = .ok (.aload_n 0, 1) := by decide +kernel
theorem dX13_readSet_94 : decode cX13_readSet 94 = .ok (.iload_n 1, 1) := by decide +kernel
theorem dX13_readSet_95 : decode cX13_readSet 95 = .ok (.iconst 5, 1) := by decide +kernel
theorem dX13_readSet_96 : decode cX13_readSet 96 = .ok (.invokevirtual 381, 3) := by decide +kernel
theorem dX13_readSet_99 : decode cX13_readSet 99 = .ok (.iadd, 1) := by decide +kernel
theorem dX13_readSet_100 : decode cX13_readSet 100 = .ok (.ishl, 1) := by decide +kernel
theorem dX13_readSet_101 : decode cX13_readSet 101 = .ok (.ior, 1) := by decide +kernel
theorem dX13_readSet_102 : decode cX13_readSet 102 = .ok (.istore_n 3, 1) := by decide +kernel
theorem dX13_readSet_103 : decode cX13_readSet 103 = .ok (.aload_n 0, 1) := by decide +kernel
theorem dX13_readSet_104 : decode cX13_readSet 104 = .ok (.iload_n 1, 1) := by decide +kernel
theorem dX13_readSet_105 : decode cX13_readSet 105 = .ok (.bipush 6, 2) := by decide +kernel
theorem dX13_readSet_107 : decode cX13_readSet 107 = .ok (.invokevirtual 381, 3) := by decide +kernel
theorem dX13_readSet_110 : decode cX13_readSet 110 = .ok (.iconst 1, 1) := by decide +kernel
theorem dX13_readSet_111 : decode cX13_readSet 111 = .ok (.if_icmp .eq 21, 3) := by decide +kernel
theorem dX13_readSet_114 : decode cX13_readSet 114 = .ok (.iload_n 2, 1) := by decide +kernel
theorem dX13_readSet_115 : decode cX13_readSet 115 = .ok (.bipush 20, 2) := by decide +kernel
theorem dX13_readSet_117 : decode cX13_readSet 117 = .ok (.if_icmp .eq 15, 3) := by decide +kernel
theorem dX13_readSet_120 : decode cX13_readSet 120 = .ok (.iload_n 2, 1) := by decide +kernel
theorem dX13_readSet_121 : decode cX13_readSet 121 = .ok (.bipush 21, 2) := by decide +kernel
theorem dX13_readSet_123 : decode cX13_readSet 123 = .ok (.if_icmp .eq 9, 3) := by decide +kernel
theorem dX13_readSet_126 : decode cX13_readSet 126 = .ok (.iload_n 2, 1) := by decide +kernel
theorem dX13_readSet_127 : decode cX13_readSet 127 = .ok (.bipush 22, 2) := by decide +kernel
theorem dX13_readSet_129 : decode cX13_readSet 129 = .ok (.if_icmp .ne 9, 3) := by decide +kernel
theorem dX13_readSet_132 : decode cX13_readSet 132 = .ok (.iload_n 3, 1) := by decide +kernel
theorem dX13_readSet_133 : decode cX13_readSet 133 = .ok (.sipush 1024, 3) := by decide +kernel
theorem dX13_readSet_136 : decode cX13_readSet 136 = .ok (.ior, 1) := by decide +kernel
theorem dX13_readSet_137 : decode cX13_readSet 137 = .ok (.istore_n 3, 1) := by decide +kernel
theorem dX13_readSet_138 : decode cX13_readSet 138 = .ok (.iload_n 2, 1) := by decide +kernel
theorem dX13_readSet_139 : decode cX13_readSet 139 = .ok (.iconst 3, 1) := by decide +kernel
theorem dX13_readSet_140 : decode cX13_readSet 140 = .ok (.if_icmp .eq 8, 3) := by decide +kernel
theorem dX13_readSet_143 : decode cX13_readSet 143 = .ok (.iload_n 2, 1) := by decide +kernel
theorem dX13_readSet_144 : decode cX13_readSet 144 = .ok (.iconst 5, 1) := by decide +kernel
theorem dX13_readSet_145 : decode cX13_readSet 145 = .ok (.if_icmp .ne 9, 3) := by decide +kernel
theorem dX13_readSet_148 : decode cX13_readSet 148 = .ok (.iload_n 3, 1) := by decide +kernel
theorem dX13_readSet_149 : decode cX13_readSet 149 = .ok (.sipush 2048, 3) := by decide +kernel
theorem dX13_readSet_152 : decode cX13_readSet 152 = .ok (.ior, 1) := by decide +kernel
theorem dX13_readSet_153 : decode cX13_readSet 153 = .ok (.istore_n 3, 1) := by decide +kernel
theorem dX13_readSet_154 : decode cX13_readSet 154 = .ok (.iload_n 3, 1) := by decide +kernel
theorem dX13_readSet_155 : decode cX13_readSet 155 = .ok (.ireturn, 1) := by decide +kernel
def pX13_readSet_b148 (g : MT) (h : CT) (this : Nat) (p1 : Int32) (l3 : Int32) : Option Int32 := lt (l3 ||| 2048) fun x1 => (some x1)
set_option maxRecDepth 10000 in
set_option maxHeartbeats 4000000 in
theorem pX13_readSet_b148_ok {X : Cx} {G : Gx} {dk : Nat} {g : MT} {r0 : Int32} {h : CT} {this : Nat} {p1 : Int32} (Z : Zx X G cX13_readSet RX13 4 dk (some .int) (some (.int r0)) g h) (hK : 2 ≤ dk) (t0 : gT g this = 12) (l3 : Int32) (hf : pX13_readSet_b148 g h this p1 l3 = some r0) : J X g h 148 [(3, .int l3)] [] := by
  unfold pX13_readSet_b148 at hf
  refine J_iload_n Z.1 0 dX13_readSet_148 rfl rfl ?_
  refine J_sipush Z.1 (v := 2048) (by decide) dX13_readSet_149 ?_
  refine J_ior Z.1 dX13_readSet_152 ?_
  refine J_ti (fun x1 ex1 => ?_)
  replace hf := lt_i hf x1 ex1
  refine J_istore_n Z.1 (lv2 := [(3, .int x1)]) dX13_readSet_153 rfl (zL Z (by decide)) rfl ?_
  refine J_iload_n Z.1 0 dX13_readSet_154 rfl rfl ?_
  cases hf
  exact J_iret Z.1 Z.2.2.2.2.2 dX13_readSet_155
def pX13_readSet_b138 (g : MT) (h : CT) (this : Nat) (p1 : Int32) (l2 : Int32) (l3 : Int32) : Option Int32 := if l2 = 3 then pX13_readSet_b148 g h this p1  l3 else if l2 = 5 then pX13_readSet_b148 g h this p1  l3 else some l3
set_option maxRecDepth 10000 in
set_option maxHeartbeats 4000000 in
theorem pX13_readSet_b138_ok {X : Cx} {G : Gx} {dk : Nat} {g : MT} {r0 : Int32} {h : CT} {this : Nat} {p1 : Int32} (Z : Zx X G cX13_readSet RX13 4 dk (some .int) (some (.int r0)) g h) (hK : 2 ≤ dk) (t0 : gT g this = 12) (l2 : Int32) (l3 : Int32) (hf : pX13_readSet_b138 g h this p1 l2 l3 = some r0) : J X g h 138 [(2, .int l2), (3, .int l3)] [] := by
  unfold pX13_readSet_b138 at hf
  refine J_iload_n Z.1 0 dX13_readSet_138 rfl rfl ?_
  refine J_iconst Z.1 (v := 3) (by decide) dX13_readSet_139 ?_
  refine J_icmp_eq Z.1 148 dX13_readSet_140 (by decide) (fun c1 => ?_) (fun c1 => ?_)
  · rw [if_pos c1] at hf
    refine J_lv [1] rfl ?_
    exact pX13_readSet_b148_ok Z hK t0  _ hf
  · rw [if_neg c1] at hf
    refine J_iload_n Z.1 0 dX13_readSet_143 rfl rfl ?_
    refine J_iconst Z.1 (v := 5) (by decide) dX13_readSet_144 ?_
    refine J_icmp_ne Z.1 154 dX13_readSet_145 (by decide) (fun c2 => ?_) (fun c2 => ?_)
    · rw [if_neg c2] at hf
      refine J_iload_n Z.1 1 dX13_readSet_154 rfl rfl ?_
      cases hf
      exact J_iret Z.1 Z.2.2.2.2.2 dX13_readSet_155
    · rw [if_pos c2] at hf
      refine J_lv [1] rfl ?_
      exact pX13_readSet_b148_ok Z hK t0  _ hf
def pX13_readSet_b132 (g : MT) (h : CT) (this : Nat) (p1 : Int32) (l2 : Int32) (l3 : Int32) : Option Int32 := lt (l3 ||| 1024) fun x1 => (pX13_readSet_b138 g h this p1  l2 x1)
set_option maxRecDepth 10000 in
set_option maxHeartbeats 4000000 in
theorem pX13_readSet_b132_ok {X : Cx} {G : Gx} {dk : Nat} {g : MT} {r0 : Int32} {h : CT} {this : Nat} {p1 : Int32} (Z : Zx X G cX13_readSet RX13 4 dk (some .int) (some (.int r0)) g h) (hK : 2 ≤ dk) (t0 : gT g this = 12) (l2 : Int32) (l3 : Int32) (hf : pX13_readSet_b132 g h this p1 l2 l3 = some r0) : J X g h 132 [(2, .int l2), (3, .int l3)] [] := by
  unfold pX13_readSet_b132 at hf
  refine J_iload_n Z.1 1 dX13_readSet_132 rfl rfl ?_
  refine J_sipush Z.1 (v := 1024) (by decide) dX13_readSet_133 ?_
  refine J_ior Z.1 dX13_readSet_136 ?_
  refine J_ti (fun x1 ex1 => ?_)
  replace hf := lt_i hf x1 ex1
  refine J_istore_n Z.1 (lv2 := [(3, .int x1), (2, .int l2)]) dX13_readSet_137 rfl (zL Z (by decide)) rfl ?_
  refine J_lv [1, 0] rfl ?_
  exact pX13_readSet_b138_ok Z hK t0  _ _ hf
def pX13_readSet_b103 (g : MT) (h : CT) (this : Nat) (p1 : Int32) (l2 : Int32) (l3 : Int32) : Option Int32 := bd (pX13_at g h this p1 6) fun x1 => (if x1 = 1 then pX13_readSet_b132 g h this p1  l2 l3 else if l2 = 20 then pX13_readSet_b132 g h this p1  l2 l3 else if l2 = 21 then pX13_readSet_b132 g h this p1  l2 l3 else if l2 = 22 then pX13_readSet_b132 g h this p1  l2 l3 else pX13_readSet_b138 g h this p1  l2 l3)
set_option maxRecDepth 10000 in
set_option maxHeartbeats 4000000 in
theorem pX13_readSet_b103_ok {X : Cx} {G : Gx} {dk : Nat} {g : MT} {r0 : Int32} {h : CT} {this : Nat} {p1 : Int32} (Z : Zx X G cX13_readSet RX13 4 dk (some .int) (some (.int r0)) g h) (hK : 2 ≤ dk) (t0 : gT g this = 12) (l2 : Int32) (l3 : Int32) (hf : pX13_readSet_b103 g h this p1 l2 l3 = some r0) : J X g h 103 [(0, va_rf (some this)), (1, .int p1), (2, .int l2), (3, .int l3)] [] := by
  unfold pX13_readSet_b103 at hf
  refine J_aload_n Z.1 0 dX13_readSet_103 rfl rfl ?_
  refine J_iload_n Z.1 1 dX13_readSet_104 rfl rfl ?_
  refine J_bipush Z.1 (v := 6) (by decide) dX13_readSet_105 ?_
  replace hf := bd_i hf
  obtain ⟨x1, q2, hf⟩ := hf
  refine J_callV (ci := 11) (as := [.int p1, .int 6]) (rest := []) (sy := [.int x1]) Z.1 dX13_readSet_107 cw_X13_381 (pX13_at_ok G (dk - 1) (by omega) q2) rfl rfl t0 (zG Z) rfl (by decide) (zF Z (by omega)) (zO Z (by omega) (by decide)) (zM _) Z.2.1 Z.2.1 rfl rfl ?_
  refine J_iconst Z.1 (v := 1) (by decide) dX13_readSet_110 ?_
  refine J_icmp_eq Z.1 132 dX13_readSet_111 (by decide) (fun c3 => ?_) (fun c3 => ?_)
  · rw [if_pos c3] at hf
    refine J_lv [2, 3] rfl ?_
    exact pX13_readSet_b132_ok Z hK t0  _ _ hf
  · rw [if_neg c3] at hf
    refine J_iload_n Z.1 2 dX13_readSet_114 rfl rfl ?_
    refine J_bipush Z.1 (v := 20) (by decide) dX13_readSet_115 ?_
    refine J_icmp_eq Z.1 132 dX13_readSet_117 (by decide) (fun c4 => ?_) (fun c4 => ?_)
    · rw [if_pos c4] at hf
      refine J_lv [2, 3] rfl ?_
      exact pX13_readSet_b132_ok Z hK t0  _ _ hf
    · rw [if_neg c4] at hf
      refine J_iload_n Z.1 2 dX13_readSet_120 rfl rfl ?_
      refine J_bipush Z.1 (v := 21) (by decide) dX13_readSet_121 ?_
      refine J_icmp_eq Z.1 132 dX13_readSet_123 (by decide) (fun c5 => ?_) (fun c5 => ?_)
      · rw [if_pos c5] at hf
        refine J_lv [2, 3] rfl ?_
        exact pX13_readSet_b132_ok Z hK t0  _ _ hf
      · rw [if_neg c5] at hf
        refine J_iload_n Z.1 2 dX13_readSet_126 rfl rfl ?_
        refine J_bipush Z.1 (v := 22) (by decide) dX13_readSet_127 ?_
        refine J_icmp_ne Z.1 138 dX13_readSet_129 (by decide) (fun c6 => ?_) (fun c6 => ?_)
        · rw [if_neg c6] at hf
          refine J_lv [2, 3] rfl ?_
          exact pX13_readSet_b138_ok Z hK t0  _ _ hf
        · rw [if_pos c6] at hf
          refine J_lv [2, 3] rfl ?_
          exact pX13_readSet_b132_ok Z hK t0  _ _ hf
def pX13_readSet_b84 (g : MT) (h : CT) (this : Nat) (p1 : Int32) (l2 : Int32) (l3 : Int32) : Option Int32 := if l2 = 2 then bd (pX13_at g h this p1 5) fun x2 => (lt (l3 ||| ((1 : Int32) <<< ((6 + x2) &&& 31))) fun x4 => (pX13_readSet_b103 g h this p1  l2 x4)) else pX13_readSet_b103 g h this p1  l2 l3
set_option maxRecDepth 10000 in
set_option maxHeartbeats 4000000 in
theorem pX13_readSet_b84_ok {X : Cx} {G : Gx} {dk : Nat} {g : MT} {r0 : Int32} {h : CT} {this : Nat} {p1 : Int32} (Z : Zx X G cX13_readSet RX13 4 dk (some .int) (some (.int r0)) g h) (hK : 2 ≤ dk) (t0 : gT g this = 12) (l2 : Int32) (l3 : Int32) (hf : pX13_readSet_b84 g h this p1 l2 l3 = some r0) : J X g h 84 [(0, va_rf (some this)), (1, .int p1), (2, .int l2), (3, .int l3)] [] := by
  unfold pX13_readSet_b84 at hf
  refine J_iload_n Z.1 2 dX13_readSet_84 rfl rfl ?_
  refine J_iconst Z.1 (v := 2) (by decide) dX13_readSet_85 ?_
  refine J_icmp_ne Z.1 103 dX13_readSet_86 (by decide) (fun c1 => ?_) (fun c1 => ?_)
  · rw [if_neg c1] at hf
    exact pX13_readSet_b103_ok Z hK t0  _ _ hf
  · rw [if_pos c1] at hf
    refine J_iload_n Z.1 3 dX13_readSet_89 rfl rfl ?_
    refine J_iconst Z.1 (v := 1) (by decide) dX13_readSet_90 ?_
    refine J_bipush Z.1 (v := 6) (by decide) dX13_readSet_91 ?_
    refine J_aload_n Z.1 0 dX13_readSet_93 rfl rfl ?_
    refine J_iload_n Z.1 1 dX13_readSet_94 rfl rfl ?_
    refine J_iconst Z.1 (v := 5) (by decide) dX13_readSet_95 ?_
    replace hf := bd_i hf
    obtain ⟨x2, q3, hf⟩ := hf
    refine J_callV (ci := 11) (as := [.int p1, .int 5]) (rest := [.int 6, .int 1, .int l3]) (sy := [.int x2, .int 6, .int 1, .int l3]) Z.1 dX13_readSet_96 cw_X13_381 (pX13_at_ok G (dk - 1) (by omega) q3) rfl rfl t0 (zG Z) rfl (by simp [cat_i, cat_l, cat_d, cat_rf]) (zF Z (by omega)) (zO Z (by omega) (by decide)) (zM _) Z.2.1 Z.2.1 rfl rfl ?_
    refine J_iadd Z.1 dX13_readSet_99 ?_
    refine J_ishl Z.1 dX13_readSet_100 ?_
    refine J_ior Z.1 dX13_readSet_101 ?_
    refine J_ti (fun x4 ex4 => ?_)
    replace hf := lt_i hf x4 ex4
    refine J_istore_n Z.1 (lv2 := [(3, .int x4), (0, va_rf (some this)), (1, .int p1), (2, .int l2)]) dX13_readSet_102 rfl (zL Z (by decide)) rfl ?_
    refine J_lv [1, 2, 3, 0] rfl ?_
    exact pX13_readSet_b103_ok Z hK t0  _ _ hf
def pX13_readSet_b73 (g : MT) (h : CT) (this : Nat) (p1 : Int32) (l2 : Int32) (l3 : Int32) : Option Int32 := bd (pX13_at g h this p1 1) fun x1 => (lt (l3 ||| ((1 : Int32) <<< (x1 &&& 31))) fun x3 => (pX13_readSet_b84 g h this p1  l2 x3))
set_option maxRecDepth 10000 in
set_option maxHeartbeats 4000000 in
theorem pX13_readSet_b73_ok {X : Cx} {G : Gx} {dk : Nat} {g : MT} {r0 : Int32} {h : CT} {this : Nat} {p1 : Int32} (Z : Zx X G cX13_readSet RX13 4 dk (some .int) (some (.int r0)) g h) (hK : 2 ≤ dk) (t0 : gT g this = 12) (l2 : Int32) (l3 : Int32) (hf : pX13_readSet_b73 g h this p1 l2 l3 = some r0) : J X g h 73 [(0, va_rf (some this)), (1, .int p1), (2, .int l2), (3, .int l3)] [] := by
  unfold pX13_readSet_b73 at hf
  refine J_iload_n Z.1 3 dX13_readSet_73 rfl rfl ?_
  refine J_iconst Z.1 (v := 1) (by decide) dX13_readSet_74 ?_
  refine J_aload_n Z.1 0 dX13_readSet_75 rfl rfl ?_
  refine J_iload_n Z.1 1 dX13_readSet_76 rfl rfl ?_
  refine J_iconst Z.1 (v := 1) (by decide) dX13_readSet_77 ?_
  replace hf := bd_i hf
  obtain ⟨x1, q2, hf⟩ := hf
  refine J_callV (ci := 11) (as := [.int p1, .int 1]) (rest := [.int 1, .int l3]) (sy := [.int x1, .int 1, .int l3]) Z.1 dX13_readSet_78 cw_X13_381 (pX13_at_ok G (dk - 1) (by omega) q2) rfl rfl t0 (zG Z) rfl (by simp [cat_i, cat_l, cat_d, cat_rf]) (zF Z (by omega)) (zO Z (by omega) (by decide)) (zM _) Z.2.1 Z.2.1 rfl rfl ?_
  refine J_ishl Z.1 dX13_readSet_81 ?_
  refine J_ior Z.1 dX13_readSet_82 ?_
  refine J_ti (fun x3 ex3 => ?_)
  replace hf := lt_i hf x3 ex3
  refine J_istore_n Z.1 (lv2 := [(3, .int x3), (0, va_rf (some this)), (1, .int p1), (2, .int l2)]) dX13_readSet_83 rfl (zL Z (by decide)) rfl ?_
  refine J_lv [1, 2, 3, 0] rfl ?_
  exact pX13_readSet_b84_ok Z hK t0  _ _ hf
def pX13_readSet_b55 (g : MT) (h : CT) (this : Nat) (p1 : Int32) (l2 : Int32) (l3 : Int32) : Option Int32 := if (pX13_readsD l2) = 0 then bd (pX13_at g h this p1 6) fun x2 => (if x2 = 1 then pX13_readSet_b73 g h this p1  l2 l3 else pX13_readSet_b84 g h this p1  l2 l3) else pX13_readSet_b73 g h this p1  l2 l3
set_option maxRecDepth 10000 in
set_option maxHeartbeats 4000000 in
theorem pX13_readSet_b55_ok {X : Cx} {G : Gx} {dk : Nat} {g : MT} {r0 : Int32} {h : CT} {this : Nat} {p1 : Int32} (Z : Zx X G cX13_readSet RX13 4 dk (some .int) (some (.int r0)) g h) (hK : 2 ≤ dk) (t0 : gT g this = 12) (l2 : Int32) (l3 : Int32) (hf : pX13_readSet_b55 g h this p1 l2 l3 = some r0) : J X g h 55 [(0, va_rf (some this)), (1, .int p1), (2, .int l2), (3, .int l3)] [] := by
  unfold pX13_readSet_b55 at hf
  refine J_iload_n Z.1 2 dX13_readSet_55 rfl rfl ?_
  refine J_callS (as := [.int l2]) (rest := []) (sy := [.int (pX13_readsD l2)]) Z.1 dX13_readSet_56 cw_X13_392 (pX13_readsD_ok G (dk - 1) (by omega) g h l2) (zG Z) rfl (by decide) (zF Z (by omega)) (zO Z (by omega) (by decide)) (zM _) Z.2.1 Z.2.1 rfl rfl ?_
  refine J_if_ne Z.1 73 dX13_readSet_59 (by decide) (fun c1 => ?_) (fun c1 => ?_)
  · rw [if_neg c1] at hf
    exact pX13_readSet_b73_ok Z hK t0  _ _ hf
  · rw [if_pos c1] at hf
    refine J_aload_n Z.1 0 dX13_readSet_62 rfl rfl ?_
    refine J_iload_n Z.1 1 dX13_readSet_63 rfl rfl ?_
    refine J_bipush Z.1 (v := 6) (by decide) dX13_readSet_64 ?_
    replace hf := bd_i hf
    obtain ⟨x2, q3, hf⟩ := hf
    refine J_callV (ci := 11) (as := [.int p1, .int 6]) (rest := []) (sy := [.int x2]) Z.1 dX13_readSet_66 cw_X13_381 (pX13_at_ok G (dk - 1) (by omega) q3) rfl rfl t0 (zG Z) rfl (by decide) (zF Z (by omega)) (zO Z (by omega) (by decide)) (zM _) Z.2.1 Z.2.1 rfl rfl ?_
    refine J_iconst Z.1 (v := 1) (by decide) dX13_readSet_69 ?_
    refine J_icmp_ne Z.1 84 dX13_readSet_70 (by decide) (fun c4 => ?_) (fun c4 => ?_)
    · rw [if_neg c4] at hf
      exact pX13_readSet_b84_ok Z hK t0  _ _ hf
    · rw [if_pos c4] at hf
      exact pX13_readSet_b73_ok Z hK t0  _ _ hf
def pX13_readSet_b37 (g : MT) (h : CT) (this : Nat) (p1 : Int32) (l2 : Int32) (l3 : Int32) : Option Int32 := if (pX13_readsB l2) = 0 then pX13_readSet_b55 g h this p1  l2 l3 else bd (pX13_at g h this p1 3) fun x2 => (lt (l3 ||| ((1 : Int32) <<< (x2 &&& 31))) fun x4 => (pX13_readSet_b55 g h this p1  l2 x4))
set_option maxRecDepth 10000 in
set_option maxHeartbeats 4000000 in
theorem pX13_readSet_b37_ok {X : Cx} {G : Gx} {dk : Nat} {g : MT} {r0 : Int32} {h : CT} {this : Nat} {p1 : Int32} (Z : Zx X G cX13_readSet RX13 4 dk (some .int) (some (.int r0)) g h) (hK : 2 ≤ dk) (t0 : gT g this = 12) (l2 : Int32) (l3 : Int32) (hf : pX13_readSet_b37 g h this p1 l2 l3 = some r0) : J X g h 37 [(0, va_rf (some this)), (1, .int p1), (2, .int l2), (3, .int l3)] [] := by
  unfold pX13_readSet_b37 at hf
  refine J_iload_n Z.1 2 dX13_readSet_37 rfl rfl ?_
  refine J_callS (as := [.int l2]) (rest := []) (sy := [.int (pX13_readsB l2)]) Z.1 dX13_readSet_38 cw_X13_389 (pX13_readsB_ok G (dk - 1) (by omega) g h l2) (zG Z) rfl (by decide) (zF Z (by omega)) (zO Z (by omega) (by decide)) (zM _) Z.2.1 Z.2.1 rfl rfl ?_
  refine J_if_eq Z.1 55 dX13_readSet_41 (by decide) (fun c1 => ?_) (fun c1 => ?_)
  · rw [if_pos c1] at hf
    exact pX13_readSet_b55_ok Z hK t0  _ _ hf
  · rw [if_neg c1] at hf
    refine J_iload_n Z.1 3 dX13_readSet_44 rfl rfl ?_
    refine J_iconst Z.1 (v := 1) (by decide) dX13_readSet_45 ?_
    refine J_aload_n Z.1 0 dX13_readSet_46 rfl rfl ?_
    refine J_iload_n Z.1 1 dX13_readSet_47 rfl rfl ?_
    refine J_iconst Z.1 (v := 3) (by decide) dX13_readSet_48 ?_
    replace hf := bd_i hf
    obtain ⟨x2, q3, hf⟩ := hf
    refine J_callV (ci := 11) (as := [.int p1, .int 3]) (rest := [.int 1, .int l3]) (sy := [.int x2, .int 1, .int l3]) Z.1 dX13_readSet_49 cw_X13_381 (pX13_at_ok G (dk - 1) (by omega) q3) rfl rfl t0 (zG Z) rfl (by simp [cat_i, cat_l, cat_d, cat_rf]) (zF Z (by omega)) (zO Z (by omega) (by decide)) (zM _) Z.2.1 Z.2.1 rfl rfl ?_
    refine J_ishl Z.1 dX13_readSet_52 ?_
    refine J_ior Z.1 dX13_readSet_53 ?_
    refine J_ti (fun x4 ex4 => ?_)
    replace hf := lt_i hf x4 ex4
    refine J_istore_n Z.1 (lv2 := [(3, .int x4), (0, va_rf (some this)), (1, .int p1), (2, .int l2)]) dX13_readSet_54 rfl (zL Z (by decide)) rfl ?_
    refine J_lv [1, 2, 3, 0] rfl ?_
    exact pX13_readSet_b55_ok Z hK t0  _ _ hf
def pX13_readSet_b18 (g : MT) (h : CT) (this : Nat) (p1 : Int32) (l2 : Int32) (s0 : Int32) : Option Int32 := if (pX13_readsA l2) = 0 then pX13_readSet_b37 g h this p1  l2 s0 else bd (pX13_at g h this p1 2) fun x2 => (lt (s0 ||| ((1 : Int32) <<< (x2 &&& 31))) fun x4 => (pX13_readSet_b37 g h this p1  l2 x4))
set_option maxRecDepth 10000 in
set_option maxHeartbeats 4000000 in
theorem pX13_readSet_b18_ok {X : Cx} {G : Gx} {dk : Nat} {g : MT} {r0 : Int32} {h : CT} {this : Nat} {p1 : Int32} (Z : Zx X G cX13_readSet RX13 4 dk (some .int) (some (.int r0)) g h) (hK : 2 ≤ dk) (t0 : gT g this = 12) (l2 : Int32) (s0 : Int32) (hf : pX13_readSet_b18 g h this p1 l2 s0 = some r0) : J X g h 18 [(0, va_rf (some this)), (1, .int p1), (2, .int l2)] [.int s0] := by
  unfold pX13_readSet_b18 at hf
  refine J_istore_n Z.1 (lv2 := [(3, .int s0), (0, va_rf (some this)), (1, .int p1), (2, .int l2)]) dX13_readSet_18 rfl (zL Z (by decide)) rfl ?_
  refine J_iload_n Z.1 3 dX13_readSet_19 rfl rfl ?_
  refine J_callS (as := [.int l2]) (rest := []) (sy := [.int (pX13_readsA l2)]) Z.1 dX13_readSet_20 cw_X13_383 (pX13_readsA_ok G (dk - 1) (by omega) g h l2) (zG Z) rfl (by decide) (zF Z (by omega)) (zO Z (by omega) (by decide)) (zM _) Z.2.1 Z.2.1 rfl rfl ?_
  refine J_if_eq Z.1 37 dX13_readSet_23 (by decide) (fun c1 => ?_) (fun c1 => ?_)
  · rw [if_pos c1] at hf
    refine J_lv [1, 2, 3, 0] rfl ?_
    exact pX13_readSet_b37_ok Z hK t0  _ _ hf
  · rw [if_neg c1] at hf
    refine J_iload_n Z.1 0 dX13_readSet_26 rfl rfl ?_
    refine J_iconst Z.1 (v := 1) (by decide) dX13_readSet_27 ?_
    refine J_aload_n Z.1 1 dX13_readSet_28 rfl rfl ?_
    refine J_iload_n Z.1 2 dX13_readSet_29 rfl rfl ?_
    refine J_iconst Z.1 (v := 2) (by decide) dX13_readSet_30 ?_
    replace hf := bd_i hf
    obtain ⟨x2, q3, hf⟩ := hf
    refine J_callV (ci := 11) (as := [.int p1, .int 2]) (rest := [.int 1, .int s0]) (sy := [.int x2, .int 1, .int s0]) Z.1 dX13_readSet_31 cw_X13_381 (pX13_at_ok G (dk - 1) (by omega) q3) rfl rfl t0 (zG Z) rfl (by simp [cat_i, cat_l, cat_d, cat_rf]) (zF Z (by omega)) (zO Z (by omega) (by decide)) (zM _) Z.2.1 Z.2.1 rfl rfl ?_
    refine J_ishl Z.1 dX13_readSet_34 ?_
    refine J_ior Z.1 dX13_readSet_35 ?_
    refine J_ti (fun x4 ex4 => ?_)
    replace hf := lt_i hf x4 ex4
    refine J_istore_n Z.1 (lv2 := [(3, .int x4), (0, va_rf (some this)), (1, .int p1), (2, .int l2)]) dX13_readSet_36 rfl (zL Z (by decide)) rfl ?_
    refine J_lv [1, 2, 3, 0] rfl ?_
    exact pX13_readSet_b37_ok Z hK t0  _ _ hf
def pX13_readSet (g : MT) (h : CT) (this : Nat) (p1 : Int32) : Option Int32 := tg g this 12 (bd (pX13_at g h this p1 0) fun x1 => (if x1 = 0 then pX13_readSet_b18 g h this p1  x1 0 else pX13_readSet_b18 g h this p1  x1 4096))
set_option maxRecDepth 10000 in
set_option maxHeartbeats 4000000 in
theorem pX13_readSet_ok (G : Gx) (dk : Nat) (hK : 2 ≤ dk) {g : MT} {h : CT} {this : Nat} {p1 : Int32} {r0 : Int32} (hf : pX13_readSet g h this p1 = some r0) : Ctr G dk yX13_readSet cX13_readSet 4 (some .int) [va_rf (some this), .int p1] g h (some (.int r0)) g h := by
  refine Ctr.ofZ (lv := [(0, va_rf (some this)), (1, .int p1)]) (by decide +kernel) (by simp [cat_i, cat_l, cat_d, cat_rf]) rfl fun X Z => ?_
  unfold pX13_readSet at hf
  replace hf := tg_i hf
  obtain ⟨t0, hf⟩ := hf
  refine J_aload_n Z.1 0 dX13_readSet_0 rfl rfl ?_
  refine J_iload_n Z.1 1 dX13_readSet_1 rfl rfl ?_
  refine J_iconst Z.1 (v := 0) (by decide) dX13_readSet_2 ?_
  replace hf := bd_i hf
  obtain ⟨x1, q2, hf⟩ := hf
  refine J_callV (ci := 11) (as := [.int p1, .int 0]) (rest := []) (sy := [.int x1]) Z.1 dX13_readSet_3 cw_X13_381 (pX13_at_ok G (dk - 1) (by omega) q2) rfl rfl t0 (zG Z) rfl (by decide) (zF Z (by omega)) (zO Z (by omega) (by decide)) (zM _) Z.2.1 Z.2.1 rfl rfl ?_
  refine J_istore_n Z.1 (lv2 := [(2, .int x1), (0, va_rf (some this)), (1, .int p1)]) dX13_readSet_6 rfl (zL Z (by decide)) rfl ?_
  refine J_iload_n Z.1 0 dX13_readSet_7 rfl rfl ?_
  refine J_if_ne Z.1 15 dX13_readSet_8 (by decide) (fun c3 => ?_) (fun c3 => ?_)
  · rw [if_neg c3] at hf
    refine J_sipush Z.1 (v := 4096) (by decide) dX13_readSet_15 ?_
    refine J_lv [1, 2, 0] rfl ?_
    exact pX13_readSet_b18_ok Z hK t0  _ _ hf
  · rw [if_pos c3] at hf
    refine J_iconst Z.1 (v := 0) (by decide) dX13_readSet_11 ?_
    refine J_goto Z.1 18 dX13_readSet_12 (by decide) ?_
    refine J_lv [1, 2, 0] rfl ?_
    exact pX13_readSet_b18_ok Z hK t0  _ _ hf
theorem dX13_writeSet_0 : decode cX13_writeSet 0 = .ok (.aload_n 0, 1) := by decide +kernel
theorem dX13_writeSet_1 : decode cX13_writeSet 1 = .ok (.iload_n 1, 1) := by decide +kernel
theorem dX13_writeSet_2 : decode cX13_writeSet 2 = .ok (.iconst 0, 1) := by decide +kernel
theorem dX13_writeSet_3 : decode cX13_writeSet 3 = .ok (.invokevirtual 381, 3) := by decide +kernel
theorem dX13_writeSet_6 : decode cX13_writeSet 6 = .ok (.istore_n 2, 1) := by decide +kernel
theorem dX13_writeSet_7 : decode cX13_writeSet 7 = .ok (.iload_n 2, 1) := by decide +kernel
theorem dX13_writeSet_8 : decode cX13_writeSet 8 = .ok (.ifCond .ne 7, 3) := by decide +kernel
theorem dX13_writeSet_11 : decode cX13_writeSet 11 = .ok (.sipush 4096, 3) := by decide +kernel
theorem dX13_writeSet_14 : decode cX13_writeSet 14 = .ok (.ireturn, 1) := by decide +kernel
theorem dX13_writeSet_15 : decode cX13_writeSet 15 = .ok (.iload_n 2, 1) := by decide +kernel
theorem dX13_writeSet_16 : decode cX13_writeSet 16 = .ok (.invokestatic 363, 3) := by decide +kernel
theorem dX13_writeSet_19 : decode cX13_writeSet 19 = .ok (.ifCond .ne 9, 3) := by decide +kernel
theorem dX13_writeSet_22 : decode cX13_writeSet 22 = .ok (.iload_n 2, 1) := by decide +kernel
theorem dX13_writeSet_23 : decode cX13_writeSet 23 = .ok (.bipush 21, 2) := by decide +kernel
theorem dX13_writeSet_25 : decode cX13_writeSet 25 = .ok (.if_icmp .ne 12, 3) := by decide +kernel
theorem dX13_writeSet_28 : decode cX13_writeSet 28 = .ok (.iconst 1, 1) := by decide +kernel
theorem dX13_writeSet_29 : decode cX13_writeSet 29 = .ok (.aload_n 0, 1) := by decide +kernel
theorem dX13_writeSet_30 : decode cX13_writeSet 30 = .ok (.iload_n 1, 1) := by decide +kernel
theorem dX13_writeSet_31 : decode cX13_writeSet 31 = .ok (.iconst 1, 1) := by decide +kernel
theorem dX13_writeSet_32 : decode cX13_writeSet 32 = .ok (.invokevirtual 381, 3) := by decide +kernel
theorem dX13_writeSet_35 : decode cX13_writeSet 35 = .ok (.ishl, 1) := by decide +kernel
theorem dX13_writeSet_36 : decode cX13_writeSet 36 = .ok (.ireturn, 1) := by decide +kernel
theorem dX13_writeSet_37 : decode cX13_writeSet 37 = .ok (.iload_n 2, 1) := by decide +kernel
theorem dX13_writeSet_38 : decode cX13_writeSet 38 = .ok (.invokestatic 354, 3) := by decide +kernel
theorem dX13_writeSet_41 : decode cX13_writeSet 41 = .ok (.ifCond .ne 9, 3) := by decide +kernel
theorem dX13_writeSet_44 : decode cX13_writeSet 44 = .ok (.iload_n 2, 1) := by decide +kernel
theorem dX13_writeSet_45 : decode cX13_writeSet 45 = .ok (.bipush 20, 2) := by decide +kernel
theorem dX13_writeSet_47 : decode cX13_writeSet 47 = .ok (.if_icmp .ne 7, 3) := by decide +kernel
theorem dX13_writeSet_50 : decode cX13_writeSet 50 = .ok (.sipush 1024, 3) := by decide +kernel
theorem dX13_writeSet_53 : decode cX13_writeSet 53 = .ok (.ireturn, 1) := by decide +kernel
theorem dX13_writeSet_54 : decode cX13_writeSet 54 = .ok (.iload_n 2, 1) := by decide +kernel
theorem dX13_writeSet_55 : decode cX13_writeSet 55 = .ok (.iconst 4, 1) := by decide +kernel
theorem dX13_writeSet_56 : decode cX13_writeSet 56 = .ok (.if_icmp .eq 9, 3) := by decide +kernel
theorem dX13_writeSet_59 : decode cX13_writeSet 59 = .ok (.iload_n 2, 1) := by decide +kernel
theorem dX13_writeSet_60 : decode cX13_writeSet 60 = .ok (.bipush 6, 2) := by decide +kernel
theorem dX13_writeSet_62 : decode cX13_writeSet 62 = .ok (.if_icmp .ne 7, 3) := by decide +kernel
theorem dX13_writeSet_65 : decode cX13_writeSet 65 = .ok (.sipush 2048, 3) := by decide +kernel
theorem dX13_writeSet_68 : decode cX13_writeSet 68 = .ok (.ireturn, 1) := by decide +kernel
theorem dX13_writeSet_69 : decode cX13_writeSet 69 = .ok (.iload_n 2, 1) := by decide +kernel
theorem dX13_writeSet_70 : decode cX13_writeSet 70 = .ok (.bipush 22, 2) := by decide +kernel
theorem dX13_writeSet_72 : decode cX13_writeSet 72 = .ok (.if_icmp .eq 10, 3) := by decide +kernel
theorem dX13_writeSet_75 : decode cX13_writeSet 75 = .ok (.iload_n 2, 1) := by decide +kernel
theorem dX13_writeSet_76 : decode cX13_writeSet 76 = .ok (.invokestatic 357, 3) := by decide +kernel
theorem dX13_writeSet_79 : decode cX13_writeSet 79 = .ok (.ifCond .eq 17, 3) := by decide +kernel
theorem dX13_writeSet_82 : decode cX13_writeSet 82 = .ok (.iconst 1, 1) := by decide +kernel
theorem dX13_writeSet_83 : decode cX13_writeSet 83 = .ok (.bipush 6, 2) := by decide +kernel
theorem dX13_writeSet_85 : decode cX13_writeSet 85 = .ok (.aload_n 0, 1) := by decide +kernel
theorem dX13_writeSet_86 : decode cX13_writeSet 86 = .ok (.iload_n 1, 1) := by decide +kernel
theorem dX13_writeSet_87 : decode cX13_writeSet 87 = .ok (.iconst 5, 1) := by decide +kernel
theorem dX13_writeSet_88 : decode cX13_writeSet 88 = .ok (.invokevirtual 381, 3) := by decide +kernel
theorem dX13_writeSet_91 : decode cX13_writeSet 91 = .ok (.iadd, 1) := by decide +kernel
theorem dX13_writeSet_92 : decode cX13_writeSet 92 = .ok (.ishl, 1) := by decide +kernel
theorem dX13_writeSet_93 : decode cX13_writeSet 93 = .ok (.goto 4, 3) := by decide +kernel
theorem dX13_writeSet_96 : decode cX13_writeSet 96 = .ok (.iconst 0, 1) := by decide +kernel
theorem dX13_writeSet_97 : decode cX13_writeSet 97 = .ok (.ireturn, 1) := by decide +kernel
def pX13_writeSet_b28 (g : MT) (h : CT) (this : Nat) (p1 : Int32)  : Option Int32 := bd (pX13_at g h this p1 1) fun x1 => (some ((1 : Int32) <<< (x1 &&& 31)))
set_option maxRecDepth 10000 in
set_option maxHeartbeats 4000000 in
theorem pX13_writeSet_b28_ok {X : Cx} {G : Gx} {dk : Nat} {g : MT} {r0 : Int32} {h : CT} {this : Nat} {p1 : Int32} (Z : Zx X G cX13_writeSet RX13 3 dk (some .int) (some (.int r0)) g h) (hK : 2 ≤ dk) (t0 : gT g this = 12)  (hf : pX13_writeSet_b28 g h this p1 = some r0) : J X g h 28 [(0, va_rf (some this)), (1, .int p1)] [] := by
  unfold pX13_writeSet_b28 at hf
  refine J_iconst Z.1 (v := 1) (by decide) dX13_writeSet_28 ?_
  refine J_aload_n Z.1 0 dX13_writeSet_29 rfl rfl ?_
  refine J_iload_n Z.1 1 dX13_writeSet_30 rfl rfl ?_
  refine J_iconst Z.1 (v := 1) (by decide) dX13_writeSet_31 ?_
  replace hf := bd_i hf
  obtain ⟨x1, q2, hf⟩ := hf
  refine J_callV (ci := 11) (as := [.int p1, .int 1]) (rest := [.int 1]) (sy := [.int x1, .int 1]) Z.1 dX13_writeSet_32 cw_X13_381 (pX13_at_ok G (dk - 1) (by omega) q2) rfl rfl t0 (zG Z) rfl (by simp [cat_i, cat_l, cat_d, cat_rf]) (zF Z (by omega)) (zO Z (by omega) (by decide)) (zM _) Z.2.1 Z.2.1 rfl rfl ?_
  refine J_ishl Z.1 dX13_writeSet_35 ?_
  cases hf
  exact J_iret Z.1 Z.2.2.2.2.2 dX13_writeSet_36
def pX13_writeSet_b82 (g : MT) (h : CT) (this : Nat) (p1 : Int32)  : Option Int32 := bd (pX13_at g h this p1 5) fun x1 => (some ((1 : Int32) <<< ((6 + x1) &&& 31)))
set_option maxRecDepth 10000 in
set_option maxHeartbeats 4000000 in
theorem pX13_writeSet_b82_ok {X : Cx} {G : Gx} {dk : Nat} {g : MT} {r0 : Int32} {h : CT} {this : Nat} {p1 : Int32} (Z : Zx X G cX13_writeSet RX13 3 dk (some .int) (some (.int r0)) g h) (hK : 2 ≤ dk) (t0 : gT g this = 12)  (hf : pX13_writeSet_b82 g h this p1 = some r0) : J X g h 82 [(0, va_rf (some this)), (1, .int p1)] [] := by
  unfold pX13_writeSet_b82 at hf
  refine J_iconst Z.1 (v := 1) (by decide) dX13_writeSet_82 ?_
  refine J_bipush Z.1 (v := 6) (by decide) dX13_writeSet_83 ?_
  refine J_aload_n Z.1 0 dX13_writeSet_85 rfl rfl ?_
  refine J_iload_n Z.1 1 dX13_writeSet_86 rfl rfl ?_
  refine J_iconst Z.1 (v := 5) (by decide) dX13_writeSet_87 ?_
  replace hf := bd_i hf
  obtain ⟨x1, q2, hf⟩ := hf
  refine J_callV (ci := 11) (as := [.int p1, .int 5]) (rest := [.int 6, .int 1]) (sy := [.int x1, .int 6, .int 1]) Z.1 dX13_writeSet_88 cw_X13_381 (pX13_at_ok G (dk - 1) (by omega) q2) rfl rfl t0 (zG Z) rfl (by simp [cat_i, cat_l, cat_d, cat_rf]) (zF Z (by omega)) (zO Z (by omega) (by decide)) (zM _) Z.2.1 Z.2.1 rfl rfl ?_
  refine J_iadd Z.1 dX13_writeSet_91 ?_
  refine J_ishl Z.1 dX13_writeSet_92 ?_
  refine J_goto Z.1 97 dX13_writeSet_93 (by decide) ?_
  cases hf
  exact J_iret Z.1 Z.2.2.2.2.2 dX13_writeSet_97
def pX13_writeSet (g : MT) (h : CT) (this : Nat) (p1 : Int32) : Option Int32 := tg g this 12 (bd (pX13_at g h this p1 0) fun x1 => (if x1 = 0 then some 4096 else if (pX13_writesD x1) = 0 then if x1 = 21 then pX13_writeSet_b28 g h this p1   else if (pX13_isCompared x1) = 0 then if x1 = 20 then some 1024 else if x1 = 4 then some 2048 else if x1 = 6 then some 2048 else if x1 = 22 then pX13_writeSet_b82 g h this p1   else if (pX13_isFolded x1) = 0 then some 0 else pX13_writeSet_b82 g h this p1   else some 1024 else pX13_writeSet_b28 g h this p1  ))
set_option maxRecDepth 10000 in
set_option maxHeartbeats 4000000 in
theorem pX13_writeSet_ok (G : Gx) (dk : Nat) (hK : 2 ≤ dk) {g : MT} {h : CT} {this : Nat} {p1 : Int32} {r0 : Int32} (hf : pX13_writeSet g h this p1 = some r0) : Ctr G dk yX13_writeSet cX13_writeSet 3 (some .int) [va_rf (some this), .int p1] g h (some (.int r0)) g h := by
  refine Ctr.ofZ (lv := [(0, va_rf (some this)), (1, .int p1)]) (by decide +kernel) (by simp [cat_i, cat_l, cat_d, cat_rf]) rfl fun X Z => ?_
  unfold pX13_writeSet at hf
  replace hf := tg_i hf
  obtain ⟨t0, hf⟩ := hf
  refine J_aload_n Z.1 0 dX13_writeSet_0 rfl rfl ?_
  refine J_iload_n Z.1 1 dX13_writeSet_1 rfl rfl ?_
  refine J_iconst Z.1 (v := 0) (by decide) dX13_writeSet_2 ?_
  replace hf := bd_i hf
  obtain ⟨x1, q2, hf⟩ := hf
  refine J_callV (ci := 11) (as := [.int p1, .int 0]) (rest := []) (sy := [.int x1]) Z.1 dX13_writeSet_3 cw_X13_381 (pX13_at_ok G (dk - 1) (by omega) q2) rfl rfl t0 (zG Z) rfl (by decide) (zF Z (by omega)) (zO Z (by omega) (by decide)) (zM _) Z.2.1 Z.2.1 rfl rfl ?_
  refine J_istore_n Z.1 (lv2 := [(2, .int x1), (0, va_rf (some this)), (1, .int p1)]) dX13_writeSet_6 rfl (zL Z (by decide)) rfl ?_
  refine J_iload_n Z.1 0 dX13_writeSet_7 rfl rfl ?_
  refine J_if_ne Z.1 15 dX13_writeSet_8 (by decide) (fun c3 => ?_) (fun c3 => ?_)
  · rw [if_neg c3] at hf
    refine J_iload_n Z.1 0 dX13_writeSet_15 rfl rfl ?_
    refine J_callS (as := [.int x1]) (rest := []) (sy := [.int (pX13_writesD x1)]) Z.1 dX13_writeSet_16 cw_X13_363 (pX13_writesD_ok G (dk - 1) (by omega) g h x1) (zG Z) rfl (by decide) (zF Z (by omega)) (zO Z (by omega) (by decide)) (zM _) Z.2.1 Z.2.1 rfl rfl ?_
    refine J_if_ne Z.1 28 dX13_writeSet_19 (by decide) (fun c4 => ?_) (fun c4 => ?_)
    · rw [if_neg c4] at hf
      refine J_lv [1, 2] rfl ?_
      exact pX13_writeSet_b28_ok Z hK t0   hf
    · rw [if_pos c4] at hf
      refine J_iload_n Z.1 0 dX13_writeSet_22 rfl rfl ?_
      refine J_bipush Z.1 (v := 21) (by decide) dX13_writeSet_23 ?_
      refine J_icmp_ne Z.1 37 dX13_writeSet_25 (by decide) (fun c5 => ?_) (fun c5 => ?_)
      · rw [if_neg c5] at hf
        refine J_iload_n Z.1 0 dX13_writeSet_37 rfl rfl ?_
        refine J_callS (as := [.int x1]) (rest := []) (sy := [.int (pX13_isCompared x1)]) Z.1 dX13_writeSet_38 cw_X13_354 (pX13_isCompared_ok G (dk - 1) (by omega) g h x1) (zG Z) rfl (by decide) (zF Z (by omega)) (zO Z (by omega) (by decide)) (zM _) Z.2.1 Z.2.1 rfl rfl ?_
        refine J_if_ne Z.1 50 dX13_writeSet_41 (by decide) (fun c6 => ?_) (fun c6 => ?_)
        · rw [if_neg c6] at hf
          refine J_sipush Z.1 (v := 1024) (by decide) dX13_writeSet_50 ?_
          cases hf
          exact J_iret Z.1 Z.2.2.2.2.2 dX13_writeSet_53
        · rw [if_pos c6] at hf
          refine J_iload_n Z.1 0 dX13_writeSet_44 rfl rfl ?_
          refine J_bipush Z.1 (v := 20) (by decide) dX13_writeSet_45 ?_
          refine J_icmp_ne Z.1 54 dX13_writeSet_47 (by decide) (fun c7 => ?_) (fun c7 => ?_)
          · rw [if_neg c7] at hf
            refine J_iload_n Z.1 0 dX13_writeSet_54 rfl rfl ?_
            refine J_iconst Z.1 (v := 4) (by decide) dX13_writeSet_55 ?_
            refine J_icmp_eq Z.1 65 dX13_writeSet_56 (by decide) (fun c8 => ?_) (fun c8 => ?_)
            · rw [if_pos c8] at hf
              refine J_sipush Z.1 (v := 2048) (by decide) dX13_writeSet_65 ?_
              cases hf
              exact J_iret Z.1 Z.2.2.2.2.2 dX13_writeSet_68
            · rw [if_neg c8] at hf
              refine J_iload_n Z.1 0 dX13_writeSet_59 rfl rfl ?_
              refine J_bipush Z.1 (v := 6) (by decide) dX13_writeSet_60 ?_
              refine J_icmp_ne Z.1 69 dX13_writeSet_62 (by decide) (fun c9 => ?_) (fun c9 => ?_)
              · rw [if_neg c9] at hf
                refine J_iload_n Z.1 0 dX13_writeSet_69 rfl rfl ?_
                refine J_bipush Z.1 (v := 22) (by decide) dX13_writeSet_70 ?_
                refine J_icmp_eq Z.1 82 dX13_writeSet_72 (by decide) (fun c10 => ?_) (fun c10 => ?_)
                · rw [if_pos c10] at hf
                  refine J_lv [1, 2] rfl ?_
                  exact pX13_writeSet_b82_ok Z hK t0   hf
                · rw [if_neg c10] at hf
                  refine J_iload_n Z.1 0 dX13_writeSet_75 rfl rfl ?_
                  refine J_callS (as := [.int x1]) (rest := []) (sy := [.int (pX13_isFolded x1)]) Z.1 dX13_writeSet_76 cw_X13_357 (pX13_isFolded_ok G (dk - 1) (by omega) g h x1) (zG Z) rfl (by decide) (zF Z (by omega)) (zO Z (by omega) (by decide)) (zM _) Z.2.1 Z.2.1 rfl rfl ?_
                  refine J_if_eq Z.1 96 dX13_writeSet_79 (by decide) (fun c11 => ?_) (fun c11 => ?_)
                  · rw [if_pos c11] at hf
                    refine J_iconst Z.1 (v := 0) (by decide) dX13_writeSet_96 ?_
                    cases hf
                    exact J_iret Z.1 Z.2.2.2.2.2 dX13_writeSet_97
                  · rw [if_neg c11] at hf
                    refine J_lv [1, 2] rfl ?_
                    exact pX13_writeSet_b82_ok Z hK t0   hf
              · rw [if_pos c9] at hf
                refine J_sipush Z.1 (v := 2048) (by decide) dX13_writeSet_65 ?_
                cases hf
                exact J_iret Z.1 Z.2.2.2.2.2 dX13_writeSet_68
          · rw [if_pos c7] at hf
            refine J_sipush Z.1 (v := 1024) (by decide) dX13_writeSet_50 ?_
            cases hf
            exact J_iret Z.1 Z.2.2.2.2.2 dX13_writeSet_53
      · rw [if_pos c5] at hf
        refine J_lv [1, 2] rfl ?_
        exact pX13_writeSet_b28_ok Z hK t0   hf
  · rw [if_pos c3] at hf
    refine J_sipush Z.1 (v := 4096) (by decide) dX13_writeSet_11 ?_
    cases hf
    exact J_iret Z.1 Z.2.2.2.2.2 dX13_writeSet_14
theorem dX13_isBar_0 : decode cX13_isBar 0 = .ok (.aload_n 0, 1) := by decide +kernel
theorem dX13_isBar_1 : decode cX13_isBar 1 = .ok (.iload_n 1, 1) := by decide +kernel
theorem dX13_isBar_2 : decode cX13_isBar 2 = .ok (.iconst 0, 1) := by decide +kernel
theorem dX13_isBar_3 : decode cX13_isBar 3 = .ok (.invokevirtual 381, 3) := by decide +kernel
theorem dX13_isBar_6 : decode cX13_isBar 6 = .ok (.bipush 25, 2) := by decide +kernel
theorem dX13_isBar_8 : decode cX13_isBar 8 = .ok (.if_icmp .eq 14, 3) := by decide +kernel
theorem dX13_isBar_11 : decode cX13_isBar 11 = .ok (.aload_n 0, 1) := by decide +kernel
theorem dX13_isBar_12 : decode cX13_isBar 12 = .ok (.iload_n 1, 1) := by decide +kernel
theorem dX13_isBar_13 : decode cX13_isBar 13 = .ok (.iconst 0, 1) := by decide +kernel
theorem dX13_isBar_14 : decode cX13_isBar 14 = .ok (.invokevirtual 381, 3) := by decide +kernel
theorem dX13_isBar_17 : decode cX13_isBar 17 = .ok (.bipush 26, 2) := by decide +kernel
theorem dX13_isBar_19 : decode cX13_isBar 19 = .ok (.if_icmp .ne 7, 3) := by decide +kernel
theorem dX13_isBar_22 : decode cX13_isBar 22 = .ok (.iconst 1, 1) := by decide +kernel
theorem dX13_isBar_23 : decode cX13_isBar 23 = .ok (.goto 4, 3) := by decide +kernel
theorem dX13_isBar_26 : decode cX13_isBar 26 = .ok (.iconst 0, 1) := by decide +kernel
theorem dX13_isBar_27 : decode cX13_isBar 27 = .ok (.ireturn, 1) := by decide +kernel
def pX13_isBar_b22 (g : MT) (h : CT) (this : Nat) (p1 : Int32)  : Option Int32 := some 1
set_option maxRecDepth 10000 in
set_option maxHeartbeats 4000000 in
theorem pX13_isBar_b22_ok {X : Cx} {G : Gx} {dk : Nat} {g : MT} {r0 : Int32} {h : CT} {this : Nat} {p1 : Int32} (Z : Zx X G cX13_isBar RX13 2 dk (some .boolean) (some (.int r0)) g h) (hK : 1 ≤ dk) (t0 : gT g this = 12)  (hf : pX13_isBar_b22 g h this p1 = some r0) : J X g h 22 [] [] := by
  unfold pX13_isBar_b22 at hf
  refine J_iconst Z.1 (v := 1) (by decide) dX13_isBar_22 ?_
  refine J_goto Z.1 27 dX13_isBar_23 (by decide) ?_
  cases hf
  exact J_zret Z.1 Z.2.2.2.2.2 (z_n (Or.inr rfl)) dX13_isBar_27
def pX13_isBar (g : MT) (h : CT) (this : Nat) (p1 : Int32) : Option Int32 := tg g this 12 (bd (pX13_at g h this p1 0) fun x1 => (if x1 = 25 then pX13_isBar_b22 g h this p1   else bd (pX13_at g h this p1 0) fun x4 => (if x4 = 26 then pX13_isBar_b22 g h this p1   else some 0)))
set_option maxRecDepth 10000 in
set_option maxHeartbeats 4000000 in
theorem pX13_isBar_ok (G : Gx) (dk : Nat) (hK : 1 ≤ dk) {g : MT} {h : CT} {this : Nat} {p1 : Int32} {r0 : Int32} (hf : pX13_isBar g h this p1 = some r0) : Ctr G dk yX13_isBar cX13_isBar 2 (some .boolean) [va_rf (some this), .int p1] g h (some (.int r0)) g h := by
  refine Ctr.ofZ (lv := [(0, va_rf (some this)), (1, .int p1)]) (by decide +kernel) (by simp [cat_i, cat_l, cat_d, cat_rf]) rfl fun X Z => ?_
  unfold pX13_isBar at hf
  replace hf := tg_i hf
  obtain ⟨t0, hf⟩ := hf
  refine J_aload_n Z.1 0 dX13_isBar_0 rfl rfl ?_
  refine J_iload_n Z.1 1 dX13_isBar_1 rfl rfl ?_
  refine J_iconst Z.1 (v := 0) (by decide) dX13_isBar_2 ?_
  replace hf := bd_i hf
  obtain ⟨x1, q2, hf⟩ := hf
  refine J_callV (ci := 11) (as := [.int p1, .int 0]) (rest := []) (sy := [.int x1]) Z.1 dX13_isBar_3 cw_X13_381 (pX13_at_ok G (dk - 1) (by omega) q2) rfl rfl t0 (zG Z) rfl (by decide) (zF Z (by omega)) (zO Z (by omega) (by decide)) (zM _) Z.2.1 Z.2.1 rfl rfl ?_
  refine J_bipush Z.1 (v := 25) (by decide) dX13_isBar_6 ?_
  refine J_icmp_eq Z.1 22 dX13_isBar_8 (by decide) (fun c3 => ?_) (fun c3 => ?_)
  · rw [if_pos c3] at hf
    refine J_lv [] rfl ?_
    exact pX13_isBar_b22_ok Z hK t0   hf
  · rw [if_neg c3] at hf
    refine J_aload_n Z.1 0 dX13_isBar_11 rfl rfl ?_
    refine J_iload_n Z.1 1 dX13_isBar_12 rfl rfl ?_
    refine J_iconst Z.1 (v := 0) (by decide) dX13_isBar_13 ?_
    replace hf := bd_i hf
    obtain ⟨x4, q5, hf⟩ := hf
    refine J_callV (ci := 11) (as := [.int p1, .int 0]) (rest := []) (sy := [.int x4]) Z.1 dX13_isBar_14 cw_X13_381 (pX13_at_ok G (dk - 1) (by omega) q5) rfl rfl t0 (zG Z) rfl (by decide) (zF Z (by omega)) (zO Z (by omega) (by decide)) (zM _) Z.2.1 Z.2.1 rfl rfl ?_
    refine J_bipush Z.1 (v := 26) (by decide) dX13_isBar_17 ?_
    refine J_icmp_ne Z.1 26 dX13_isBar_19 (by decide) (fun c6 => ?_) (fun c6 => ?_)
    · rw [if_neg c6] at hf
      refine J_iconst Z.1 (v := 0) (by decide) dX13_isBar_26 ?_
      cases hf
      exact J_zret Z.1 Z.2.2.2.2.2 (z_n (Or.inl rfl)) dX13_isBar_27
    · rw [if_pos c6] at hf
      refine J_lv [] rfl ?_
      exact pX13_isBar_b22_ok Z hK t0   hf
theorem dX13_dependsOf_0 : decode cX13_dependsOf 0 = .ok (.aload_n 0, 1) := by decide +kernel
theorem dX13_dependsOf_1 : decode cX13_dependsOf 1 = .ok (.iload_n 1, 1) := by decide +kernel
theorem dX13_dependsOf_2 : decode cX13_dependsOf 2 = .ok (.invokevirtual 574, 3) := by decide +kernel
theorem dX13_dependsOf_5 : decode cX13_dependsOf 5 = .ok (.ifCond .ne 11, 3) := by decide +kernel
theorem dX13_dependsOf_8 : decode cX13_dependsOf 8 = .ok (.aload_n 0, 1) := by decide +kernel
theorem dX13_dependsOf_9 : decode cX13_dependsOf 9 = .ok (.iload_n 2, 1) := by decide +kernel
theorem dX13_dependsOf_10 : decode cX13_dependsOf 10 = .ok (.invokevirtual 574, 3) := by decide +kernel
theorem dX13_dependsOf_13 : decode cX13_dependsOf 13 = .ok (.ifCond .eq 6, 3) := by decide +kernel
theorem dX13_dependsOf_16 : decode cX13_dependsOf 16 = .ok (.bipush 7, 2) := by decide +kernel
theorem dX13_dependsOf_18 : decode cX13_dependsOf 18 = .ok (.ireturn, 1) := by decide +kernel
theorem dX13_dependsOf_19 : decode cX13_dependsOf 19 = .ok (.aload_n 0, 1) := by decide +kernel
theorem dX13_dependsOf_20 : decode cX13_dependsOf 20 = .ok (.iload_n 1, 1) := by decide +kernel
theorem dX13_dependsOf_21 : decode cX13_dependsOf 21 = .ok (.invokevirtual 577, 3) := by decide +kernel
theorem dX13_dependsOf_24 : decode cX13_dependsOf 24 = .ok (.aload_n 0, 1) := by decide +kernel
theorem dX13_dependsOf_25 : decode cX13_dependsOf 25 = .ok (.iload_n 2, 1) := by decide +kernel
theorem dX13_dependsOf_26 : decode cX13_dependsOf 26 = .ok (.invokevirtual 580, 3) := by decide +kernel
theorem dX13_dependsOf_29 : decode cX13_dependsOf 29 = .ok (.iand, 1) := by decide +kernel
theorem dX13_dependsOf_30 : decode cX13_dependsOf 30 = .ok (.ifCond .eq 7, 3) := by decide +kernel
theorem dX13_dependsOf_33 : decode cX13_dependsOf 33 = .ok (.iconst 1, 1) := by decide +kernel
theorem dX13_dependsOf_34 : decode cX13_dependsOf 34 = .ok (.goto 4, 3) := by decide +kernel
theorem dX13_dependsOf_37 : decode cX13_dependsOf 37 = .ok (.iconst 0, 1) := by decide +kernel
theorem dX13_dependsOf_38 : decode cX13_dependsOf 38 = .ok (.istore_n 3, 1) := by decide +kernel
theorem dX13_dependsOf_39 : decode cX13_dependsOf 39 = .ok (.iload_n 3, 1) := by decide +kernel
theorem dX13_dependsOf_40 : decode cX13_dependsOf 40 = .ok (.aload_n 0, 1) := by decide +kernel
theorem dX13_dependsOf_41 : decode cX13_dependsOf 41 = .ok (.iload_n 1, 1) := by decide +kernel
theorem dX13_dependsOf_42 : decode cX13_dependsOf 42 = .ok (.invokevirtual 580, 3) := by decide +kernel
theorem dX13_dependsOf_45 : decode cX13_dependsOf 45 = .ok (.aload_n 0, 1) := by decide +kernel
theorem dX13_dependsOf_46 : decode cX13_dependsOf 46 = .ok (.iload_n 2, 1) := by decide +kernel
theorem dX13_dependsOf_47 : decode cX13_dependsOf 47 = .ok (.invokevirtual 577, 3) := by decide +kernel
theorem dX13_dependsOf_50 : decode cX13_dependsOf 50 = .ok (.iand, 1) := by decide +kernel
theorem dX13_dependsOf_51 : decode cX13_dependsOf 51 = .ok (.ifCond .eq 7, 3) := by decide +kernel
theorem dX13_dependsOf_54 : decode cX13_dependsOf 54 = .ok (.iconst 2, 1) := by decide +kernel
theorem dX13_dependsOf_55 : decode cX13_dependsOf 55 = .ok (.goto 4, 3) := by decide +kernel
theorem dX13_dependsOf_58 : decode cX13_dependsOf 58 = .ok (.iconst 0, 1) := by decide +kernel
theorem dX13_dependsOf_59 : decode cX13_dependsOf 59 = .ok (.iadd, 1) := by decide +kernel
theorem dX13_dependsOf_60 : decode cX13_dependsOf 60 = .ok (.istore_n 3, 1) := by decide +kernel
theorem dX13_dependsOf_61 : decode cX13_dependsOf 61 = .ok (.iload_n 3, 1) := by decide +kernel
theorem dX13_dependsOf_62 : decode cX13_dependsOf 62 = .ok (.aload_n 0, 1) := by decide +kernel
theorem dX13_dependsOf_63 : decode cX13_dependsOf 63 = .ok (.iload_n 1, 1) := by decide +kernel
theorem dX13_dependsOf_64 : decode cX13_dependsOf 64 = .ok (.invokevirtual 577, 3) := by decide +kernel
theorem dX13_dependsOf_67 : decode cX13_dependsOf 67 = .ok (.aload_n 0, 1) := by decide +kernel
theorem dX13_dependsOf_68 : decode cX13_dependsOf 68 = .ok (.iload_n 2, 1) := by decide +kernel
theorem dX13_dependsOf_69 : decode cX13_dependsOf 69 = .ok (.invokevirtual 577, 3) := by decide +kernel
theorem dX13_dependsOf_72 : decode cX13_dependsOf 72 = .ok (.iand, 1) := by decide +kernel
theorem dX13_dependsOf_73 : decode cX13_dependsOf 73 = .ok (.ifCond .eq 7, 3) := by decide +kernel
theorem dX13_dependsOf_76 : decode cX13_dependsOf 76 = .ok (.iconst 4, 1) := by decide +kernel
theorem dX13_dependsOf_77 : decode cX13_dependsOf 77 = .ok (.goto 4, 3) := by decide +kernel
theorem dX13_dependsOf_80 : decode cX13_dependsOf 80 = .ok (.iconst 0, 1) := by decide +kernel
theorem dX13_dependsOf_81 : decode cX13_dependsOf 81 = .ok (.iadd, 1) := by decide +kernel
theorem dX13_dependsOf_82 : decode cX13_dependsOf 82 = .ok (.ireturn, 1) := by decide +kernel
def pX13_dependsOf_b59 (g : MT) (h : CT) (this : Nat) (p1 : Int32) (p2 : Int32) (s0 : Int32) (s1 : Int32) : Option Int32 := lt (s0 + s1) fun x1 => (bd (pX13_writeSet g h this p1) fun x2 => (bd (pX13_writeSet g h this p2) fun x4 => (if (x2 &&& x4) = 0 then some (x1 + 0) else some (x1 + 4))))
set_option maxRecDepth 10000 in
set_option maxHeartbeats 4000000 in
theorem pX13_dependsOf_b59_ok {X : Cx} {G : Gx} {dk : Nat} {g : MT} {r0 : Int32} {h : CT} {this : Nat} {p1 : Int32} {p2 : Int32} (Z : Zx X G cX13_dependsOf RX13 4 dk (some .int) (some (.int r0)) g h) (hK : 3 ≤ dk) (t0 : gT g this = 12) (s0 : Int32) (s1 : Int32) (hf : pX13_dependsOf_b59 g h this p1 p2 s0 s1 = some r0) : J X g h 59 [(0, va_rf (some this)), (1, .int p1), (2, .int p2)] [.int s1, .int s0] := by
  unfold pX13_dependsOf_b59 at hf
  refine J_iadd Z.1 dX13_dependsOf_59 ?_
  refine J_ti (fun x1 ex1 => ?_)
  replace hf := lt_i hf x1 ex1
  refine J_istore_n Z.1 (lv2 := [(3, .int x1), (0, va_rf (some this)), (1, .int p1), (2, .int p2)]) dX13_dependsOf_60 rfl (zL Z (by decide)) rfl ?_
  refine J_iload_n Z.1 0 dX13_dependsOf_61 rfl rfl ?_
  refine J_aload_n Z.1 1 dX13_dependsOf_62 rfl rfl ?_
  refine J_iload_n Z.1 2 dX13_dependsOf_63 rfl rfl ?_
  replace hf := bd_i hf
  obtain ⟨x2, q3, hf⟩ := hf
  refine J_callV (ci := 11) (as := [.int p1]) (rest := [.int x1]) (sy := [.int x2, .int x1]) Z.1 dX13_dependsOf_64 cw_X13_577 (pX13_writeSet_ok G (dk - 1) (by omega) q3) rfl rfl t0 (zG Z) rfl (by simp [cat_i, cat_l, cat_d, cat_rf]) (zF Z (by omega)) (zO Z (by omega) (by decide)) (zM _) Z.2.1 Z.2.1 rfl rfl ?_
  refine J_aload_n Z.1 1 dX13_dependsOf_67 rfl rfl ?_
  refine J_iload_n Z.1 3 dX13_dependsOf_68 rfl rfl ?_
  replace hf := bd_i hf
  obtain ⟨x4, q5, hf⟩ := hf
  refine J_callV (ci := 11) (as := [.int p2]) (rest := [.int x2, .int x1]) (sy := [.int x4, .int x2, .int x1]) Z.1 dX13_dependsOf_69 cw_X13_577 (pX13_writeSet_ok G (dk - 1) (by omega) q5) rfl rfl t0 (zG Z) rfl (by simp [cat_i, cat_l, cat_d, cat_rf]) (zF Z (by omega)) (zO Z (by omega) (by decide)) (zM _) Z.2.1 Z.2.1 rfl rfl ?_
  refine J_iand Z.1 dX13_dependsOf_72 ?_
  refine J_if_eq Z.1 80 dX13_dependsOf_73 (by decide) (fun c6 => ?_) (fun c6 => ?_)
  · rw [if_pos c6] at hf
    refine J_iconst Z.1 (v := 0) (by decide) dX13_dependsOf_80 ?_
    refine J_iadd Z.1 dX13_dependsOf_81 ?_
    cases hf
    exact J_iret Z.1 Z.2.2.2.2.2 dX13_dependsOf_82
  · rw [if_neg c6] at hf
    refine J_iconst Z.1 (v := 4) (by decide) dX13_dependsOf_76 ?_
    refine J_goto Z.1 81 dX13_dependsOf_77 (by decide) ?_
    refine J_iadd Z.1 dX13_dependsOf_81 ?_
    cases hf
    exact J_iret Z.1 Z.2.2.2.2.2 dX13_dependsOf_82
def pX13_dependsOf_b38 (g : MT) (h : CT) (this : Nat) (p1 : Int32) (p2 : Int32) (s0 : Int32) : Option Int32 := bd (pX13_readSet g h this p1) fun x1 => (bd (pX13_writeSet g h this p2) fun x3 => (if (x1 &&& x3) = 0 then pX13_dependsOf_b59 g h this p1 p2  s0 0 else pX13_dependsOf_b59 g h this p1 p2  s0 2))
set_option maxRecDepth 10000 in
set_option maxHeartbeats 4000000 in
theorem pX13_dependsOf_b38_ok {X : Cx} {G : Gx} {dk : Nat} {g : MT} {r0 : Int32} {h : CT} {this : Nat} {p1 : Int32} {p2 : Int32} (Z : Zx X G cX13_dependsOf RX13 4 dk (some .int) (some (.int r0)) g h) (hK : 3 ≤ dk) (t0 : gT g this = 12) (s0 : Int32) (hf : pX13_dependsOf_b38 g h this p1 p2 s0 = some r0) : J X g h 38 [(0, va_rf (some this)), (1, .int p1), (2, .int p2)] [.int s0] := by
  unfold pX13_dependsOf_b38 at hf
  refine J_istore_n Z.1 (lv2 := [(3, .int s0), (0, va_rf (some this)), (1, .int p1), (2, .int p2)]) dX13_dependsOf_38 rfl (zL Z (by decide)) rfl ?_
  refine J_iload_n Z.1 0 dX13_dependsOf_39 rfl rfl ?_
  refine J_aload_n Z.1 1 dX13_dependsOf_40 rfl rfl ?_
  refine J_iload_n Z.1 2 dX13_dependsOf_41 rfl rfl ?_
  replace hf := bd_i hf
  obtain ⟨x1, q2, hf⟩ := hf
  refine J_callV (ci := 11) (as := [.int p1]) (rest := [.int s0]) (sy := [.int x1, .int s0]) Z.1 dX13_dependsOf_42 cw_X13_580 (pX13_readSet_ok G (dk - 1) (by omega) q2) rfl rfl t0 (zG Z) rfl (by simp [cat_i, cat_l, cat_d, cat_rf]) (zF Z (by omega)) (zO Z (by omega) (by decide)) (zM _) Z.2.1 Z.2.1 rfl rfl ?_
  refine J_aload_n Z.1 1 dX13_dependsOf_45 rfl rfl ?_
  refine J_iload_n Z.1 3 dX13_dependsOf_46 rfl rfl ?_
  replace hf := bd_i hf
  obtain ⟨x3, q4, hf⟩ := hf
  refine J_callV (ci := 11) (as := [.int p2]) (rest := [.int x1, .int s0]) (sy := [.int x3, .int x1, .int s0]) Z.1 dX13_dependsOf_47 cw_X13_577 (pX13_writeSet_ok G (dk - 1) (by omega) q4) rfl rfl t0 (zG Z) rfl (by simp [cat_i, cat_l, cat_d, cat_rf]) (zF Z (by omega)) (zO Z (by omega) (by decide)) (zM _) Z.2.1 Z.2.1 rfl rfl ?_
  refine J_iand Z.1 dX13_dependsOf_50 ?_
  refine J_if_eq Z.1 58 dX13_dependsOf_51 (by decide) (fun c5 => ?_) (fun c5 => ?_)
  · rw [if_pos c5] at hf
    refine J_iconst Z.1 (v := 0) (by decide) dX13_dependsOf_58 ?_
    refine J_lv [1, 2, 3] rfl ?_
    exact pX13_dependsOf_b59_ok Z hK t0  _ _ hf
  · rw [if_neg c5] at hf
    refine J_iconst Z.1 (v := 2) (by decide) dX13_dependsOf_54 ?_
    refine J_goto Z.1 59 dX13_dependsOf_55 (by decide) ?_
    refine J_lv [1, 2, 3] rfl ?_
    exact pX13_dependsOf_b59_ok Z hK t0  _ _ hf
def pX13_dependsOf (g : MT) (h : CT) (this : Nat) (p1 : Int32) (p2 : Int32) : Option Int32 := tg g this 12 (bd (pX13_isBar g h this p1) fun x1 => (if x1 = 0 then bd (pX13_isBar g h this p2) fun x4 => (if x4 = 0 then bd (pX13_writeSet g h this p1) fun x7 => (bd (pX13_readSet g h this p2) fun x9 => (if (x7 &&& x9) = 0 then pX13_dependsOf_b38 g h this p1 p2  0 else pX13_dependsOf_b38 g h this p1 p2  1)) else some 7) else some 7))
set_option maxRecDepth 10000 in
set_option maxHeartbeats 4000000 in
theorem pX13_dependsOf_ok (G : Gx) (dk : Nat) (hK : 3 ≤ dk) {g : MT} {h : CT} {this : Nat} {p1 : Int32} {p2 : Int32} {r0 : Int32} (hf : pX13_dependsOf g h this p1 p2 = some r0) : Ctr G dk yX13_dependsOf cX13_dependsOf 4 (some .int) [va_rf (some this), .int p1, .int p2] g h (some (.int r0)) g h := by
  refine Ctr.ofZ (lv := [(0, va_rf (some this)), (1, .int p1), (2, .int p2)]) (by decide +kernel) (by simp [cat_i, cat_l, cat_d, cat_rf]) rfl fun X Z => ?_
  unfold pX13_dependsOf at hf
  replace hf := tg_i hf
  obtain ⟨t0, hf⟩ := hf
  refine J_aload_n Z.1 0 dX13_dependsOf_0 rfl rfl ?_
  refine J_iload_n Z.1 1 dX13_dependsOf_1 rfl rfl ?_
  replace hf := bd_i hf
  obtain ⟨x1, q2, hf⟩ := hf
  refine J_callV (ci := 11) (as := [.int p1]) (rest := []) (sy := [.int x1]) Z.1 dX13_dependsOf_2 cw_X13_574 (pX13_isBar_ok G (dk - 1) (by omega) q2) rfl rfl t0 (zG Z) rfl (by decide) (zF Z (by omega)) (zO Z (by omega) (by decide)) (zM _) Z.2.1 Z.2.1 rfl rfl ?_
  refine J_if_ne Z.1 16 dX13_dependsOf_5 (by decide) (fun c3 => ?_) (fun c3 => ?_)
  · rw [if_neg c3] at hf
    refine J_bipush Z.1 (v := 7) (by decide) dX13_dependsOf_16 ?_
    cases hf
    exact J_iret Z.1 Z.2.2.2.2.2 dX13_dependsOf_18
  · rw [if_pos c3] at hf
    refine J_aload_n Z.1 0 dX13_dependsOf_8 rfl rfl ?_
    refine J_iload_n Z.1 2 dX13_dependsOf_9 rfl rfl ?_
    replace hf := bd_i hf
    obtain ⟨x4, q5, hf⟩ := hf
    refine J_callV (ci := 11) (as := [.int p2]) (rest := []) (sy := [.int x4]) Z.1 dX13_dependsOf_10 cw_X13_574 (pX13_isBar_ok G (dk - 1) (by omega) q5) rfl rfl t0 (zG Z) rfl (by decide) (zF Z (by omega)) (zO Z (by omega) (by decide)) (zM _) Z.2.1 Z.2.1 rfl rfl ?_
    refine J_if_eq Z.1 19 dX13_dependsOf_13 (by decide) (fun c6 => ?_) (fun c6 => ?_)
    · rw [if_pos c6] at hf
      refine J_aload_n Z.1 0 dX13_dependsOf_19 rfl rfl ?_
      refine J_iload_n Z.1 1 dX13_dependsOf_20 rfl rfl ?_
      replace hf := bd_i hf
      obtain ⟨x7, q8, hf⟩ := hf
      refine J_callV (ci := 11) (as := [.int p1]) (rest := []) (sy := [.int x7]) Z.1 dX13_dependsOf_21 cw_X13_577 (pX13_writeSet_ok G (dk - 1) (by omega) q8) rfl rfl t0 (zG Z) rfl (by decide) (zF Z (by omega)) (zO Z (by omega) (by decide)) (zM _) Z.2.1 Z.2.1 rfl rfl ?_
      refine J_aload_n Z.1 0 dX13_dependsOf_24 rfl rfl ?_
      refine J_iload_n Z.1 2 dX13_dependsOf_25 rfl rfl ?_
      replace hf := bd_i hf
      obtain ⟨x9, q10, hf⟩ := hf
      refine J_callV (ci := 11) (as := [.int p2]) (rest := [.int x7]) (sy := [.int x9, .int x7]) Z.1 dX13_dependsOf_26 cw_X13_580 (pX13_readSet_ok G (dk - 1) (by omega) q10) rfl rfl t0 (zG Z) rfl (by simp [cat_i, cat_l, cat_d, cat_rf]) (zF Z (by omega)) (zO Z (by omega) (by decide)) (zM _) Z.2.1 Z.2.1 rfl rfl ?_
      refine J_iand Z.1 dX13_dependsOf_29 ?_
      refine J_if_eq Z.1 37 dX13_dependsOf_30 (by decide) (fun c11 => ?_) (fun c11 => ?_)
      · rw [if_pos c11] at hf
        refine J_iconst Z.1 (v := 0) (by decide) dX13_dependsOf_37 ?_
        exact pX13_dependsOf_b38_ok Z hK t0  _ hf
      · rw [if_neg c11] at hf
        refine J_iconst Z.1 (v := 1) (by decide) dX13_dependsOf_33 ?_
        refine J_goto Z.1 38 dX13_dependsOf_34 (by decide) ?_
        exact pX13_dependsOf_b38_ok Z hK t0  _ hf
    · rw [if_neg c6] at hf
      refine J_bipush Z.1 (v := 7) (by decide) dX13_dependsOf_16 ?_
      cases hf
      exact J_iret Z.1 Z.2.2.2.2.2 dX13_dependsOf_18
theorem dX13_depends_0 : decode cX13_depends 0 = .ok (.aload_n 0, 1) := by decide +kernel
theorem dX13_depends_1 : decode cX13_depends 1 = .ok (.iconst 0, 1) := by decide +kernel
theorem dX13_depends_2 : decode cX13_depends 2 = .ok (.putfield 71, 3) := by decide +kernel
theorem dX13_depends_5 : decode cX13_depends 5 = .ok (.aload_n 0, 1) := by decide +kernel
theorem dX13_depends_6 : decode cX13_depends 6 = .ok (.iconst 0, 1) := by decide +kernel
theorem dX13_depends_7 : decode cX13_depends 7 = .ok (.putfield 74, 3) := by decide +kernel
theorem dX13_depends_10 : decode cX13_depends 10 = .ok (.aload_n 0, 1) := by decide +kernel
theorem dX13_depends_11 : decode cX13_depends 11 = .ok (.iload_n 1, 1) := by decide +kernel
theorem dX13_depends_12 : decode cX13_depends 12 = .ok (.invokevirtual 544, 3) := by decide +kernel
theorem dX13_depends_15 : decode cX13_depends 15 = .ok (.ifCond .eq 11, 3) := by decide +kernel
theorem dX13_depends_18 : decode cX13_depends 18 = .ok (.aload_n 0, 1) := by decide +kernel
theorem dX13_depends_19 : decode cX13_depends 19 = .ok (.iload_n 2, 1) := by decide +kernel
theorem dX13_depends_20 : decode cX13_depends 20 = .ok (.invokevirtual 544, 3) := by decide +kernel
theorem dX13_depends_23 : decode cX13_depends 23 = .ok (.ifCond .ne 9, 3) := by decide +kernel
theorem dX13_depends_26 : decode cX13_depends 26 = .ok (.aload_n 0, 1) := by decide +kernel
theorem dX13_depends_27 : decode cX13_depends 27 = .ok (.iconst 2, 1) := by decide +kernel
theorem dX13_depends_28 : decode cX13_depends 28 = .ok (.invokevirtual 268, 3) := by decide +kernel
theorem dX13_depends_31 : decode cX13_depends 31 = .ok (.ireturn, 1) := by decide +kernel
theorem dX13_depends_32 : decode cX13_depends 32 = .ok (.iload_n 1, 1) := by decide +kernel
theorem dX13_depends_33 : decode cX13_depends 33 = .ok (.iload_n 2, 1) := by decide +kernel
theorem dX13_depends_34 : decode cX13_depends 34 = .ok (.if_icmp .ge 12, 3) := by decide +kernel
theorem dX13_depends_37 : decode cX13_depends 37 = .ok (.aload_n 0, 1) := by decide +kernel
theorem dX13_depends_38 : decode cX13_depends 38 = .ok (.iload_n 1, 1) := by decide +kernel
theorem dX13_depends_39 : decode cX13_depends 39 = .ok (.iload_n 2, 1) := by decide +kernel
theorem dX13_depends_40 : decode cX13_depends 40 = .ok (.invokevirtual 583, 3) := by decide +kernel
theorem dX13_depends_43 : decode cX13_depends 43 = .ok (.goto 9, 3) := by decide +kernel
theorem dX13_depends_46 : decode cX13_depends 46 = .ok (.aload_n 0, 1) := by decide +kernel
theorem dX13_depends_47 : decode cX13_depends 47 = .ok (.bipush 9, 2) := by decide +kernel
theorem dX13_depends_49 : decode cX13_depends 49 = .ok (.invokevirtual 268, 3) := by decide +kernel
theorem dX13_depends_52 : decode cX13_depends 52 = .ok (.ireturn, 1) := by decide +kernel
def pX13_depends_b26 (g : MT) (this : Nat) (p1 : Int32) (p2 : Int32) (h : CT) : Option ((Int32) × CT) := bd2 (pX13_refuse g h this 2) fun x3 h1 => (some (x3, h1))
set_option maxRecDepth 10000 in
set_option maxHeartbeats 4000000 in
theorem pX13_depends_b26_ok {X : Cx} {G : Gx} {dk : Nat} {g : MT} {r0 : Int32} {h0 : CT} {this : Nat} {p1 : Int32} {p2 : Int32} (Z : Zx X G cX13_depends RX13 3 dk (some .int) (some (.int r0)) g h0) (hK : 4 ≤ dk) (t0 : gT g this = 12) (h : CT) (hf : pX13_depends_b26 g this p1 p2 h = some (r0, h0)) : J X g h 26 [(0, va_rf (some this))] [] := by
  unfold pX13_depends_b26 at hf
  refine J_aload_n Z.1 0 dX13_depends_26 rfl rfl ?_
  refine J_iconst Z.1 (v := 2) (by decide) dX13_depends_27 ?_
  replace hf := bd2_i hf
  obtain ⟨x3, h1, q2, hf⟩ := hf
  refine J_callV (ci := 11) (as := [.int 2]) (rest := []) (sy := [.int x3]) Z.1 dX13_depends_28 cw_X13_268 (pX13_refuse_ok G (dk - 1) (by omega) q2) rfl rfl t0 (zG Z) rfl (by decide) (zF Z (by omega)) (zO Z (by omega) (by decide)) (zM _) Z.2.1 Z.2.1 rfl rfl ?_
  cases hf
  exact J_iret Z.1 Z.2.2.2.2.2 dX13_depends_31
def pX13_depends (g : MT) (h : CT) (this : Nat) (p1 : Int32) (p2 : Int32) : Option ((Int32) × CT) := tg g this 12 (lt (sI h this 1 0) fun h1 => (lt (sI h1 this 0 0) fun h2 => (bd (pX13_isCode g h2 this p1) fun x3 => (if x3 = 0 then pX13_depends_b26 g this p1 p2  h2 else bd (pX13_isCode g h2 this p2) fun x6 => (if x6 = 0 then pX13_depends_b26 g this p1 p2  h2 else if p2 ≤ p1 then bd2 (pX13_refuse g h2 this 9) fun x12 h10 => (some (x12, h10)) else bd (pX13_dependsOf g h2 this p1 p2) fun x13 => (some (x13, h2)))))))
set_option maxRecDepth 10000 in
set_option maxHeartbeats 4000000 in
theorem pX13_depends_ok (G : Gx) (dk : Nat) (hK : 4 ≤ dk) {g : MT} {h h0 : CT} {this : Nat} {p1 : Int32} {p2 : Int32} {r0 : Int32} (hf : pX13_depends g h this p1 p2 = some (r0, h0)) : Ctr G dk yX13_depends cX13_depends 3 (some .int) [va_rf (some this), .int p1, .int p2] g h (some (.int r0)) g h0 := by
  refine Ctr.ofZ (lv := [(0, va_rf (some this)), (1, .int p1), (2, .int p2)]) (by decide +kernel) (by simp [cat_i, cat_l, cat_d, cat_rf]) rfl fun X Z => ?_
  unfold pX13_depends at hf
  replace hf := tg_i hf
  obtain ⟨t0, hf⟩ := hf
  refine J_aload_n Z.1 0 dX13_depends_0 rfl rfl ?_
  refine J_iconst Z.1 (v := 0) (by decide) dX13_depends_1 ?_
  refine J_putI Z.1 dX13_depends_2 fl_X13_71 (fun q => by cases q) t0 rfl rfl (congrArg Value.int (hI_s _ _ _ _)) ?_
  refine J_th (fun h1 eh1 => ?_)
  replace hf := lt_i hf h1 eh1
  refine J_aload_n Z.1 0 dX13_depends_5 rfl rfl ?_
  refine J_iconst Z.1 (v := 0) (by decide) dX13_depends_6 ?_
  refine J_putI Z.1 dX13_depends_7 fl_X13_74 (fun q => by cases q) t0 rfl rfl (congrArg Value.int (hI_s _ _ _ _)) ?_
  refine J_th (fun h2 eh2 => ?_)
  replace hf := lt_i hf h2 eh2
  refine J_aload_n Z.1 0 dX13_depends_10 rfl rfl ?_
  refine J_iload_n Z.1 1 dX13_depends_11 rfl rfl ?_
  replace hf := bd_i hf
  obtain ⟨x3, q4, hf⟩ := hf
  refine J_callV (ci := 11) (as := [.int p1]) (rest := []) (sy := [.int x3]) Z.1 dX13_depends_12 cw_X13_544 (pX13_isCode_ok G (dk - 1) (by omega) q4) rfl rfl t0 (zG Z) rfl (by decide) (zF Z (by omega)) (zO Z (by omega) (by decide)) (zM _) Z.2.1 Z.2.1 rfl rfl ?_
  refine J_if_eq Z.1 26 dX13_depends_15 (by decide) (fun c5 => ?_) (fun c5 => ?_)
  · rw [if_pos c5] at hf
    refine J_lv [0] rfl ?_
    exact pX13_depends_b26_ok Z hK t0  _ hf
  · rw [if_neg c5] at hf
    refine J_aload_n Z.1 0 dX13_depends_18 rfl rfl ?_
    refine J_iload_n Z.1 2 dX13_depends_19 rfl rfl ?_
    replace hf := bd_i hf
    obtain ⟨x6, q7, hf⟩ := hf
    refine J_callV (ci := 11) (as := [.int p2]) (rest := []) (sy := [.int x6]) Z.1 dX13_depends_20 cw_X13_544 (pX13_isCode_ok G (dk - 1) (by omega) q7) rfl rfl t0 (zG Z) rfl (by decide) (zF Z (by omega)) (zO Z (by omega) (by decide)) (zM _) Z.2.1 Z.2.1 rfl rfl ?_
    refine J_if_ne Z.1 32 dX13_depends_23 (by decide) (fun c8 => ?_) (fun c8 => ?_)
    · rw [if_neg c8] at hf
      refine J_iload_n Z.1 1 dX13_depends_32 rfl rfl ?_
      refine J_iload_n Z.1 2 dX13_depends_33 rfl rfl ?_
      refine J_icmp_ge Z.1 46 dX13_depends_34 (by decide) (fun c9 => ?_) (fun c9 => ?_)
      · rw [if_pos c9] at hf
        refine J_aload_n Z.1 0 dX13_depends_46 rfl rfl ?_
        refine J_bipush Z.1 (v := 9) (by decide) dX13_depends_47 ?_
        replace hf := bd2_i hf
        obtain ⟨x12, h10, q11, hf⟩ := hf
        refine J_callV (ci := 11) (as := [.int 9]) (rest := []) (sy := [.int x12]) Z.1 dX13_depends_49 cw_X13_268 (pX13_refuse_ok G (dk - 1) (by omega) q11) rfl rfl t0 (zG Z) rfl (by decide) (zF Z (by omega)) (zO Z (by omega) (by decide)) (zM _) Z.2.1 Z.2.1 rfl rfl ?_
        cases hf
        exact J_iret Z.1 Z.2.2.2.2.2 dX13_depends_52
      · rw [if_neg c9] at hf
        refine J_aload_n Z.1 0 dX13_depends_37 rfl rfl ?_
        refine J_iload_n Z.1 1 dX13_depends_38 rfl rfl ?_
        refine J_iload_n Z.1 2 dX13_depends_39 rfl rfl ?_
        replace hf := bd_i hf
        obtain ⟨x13, q14, hf⟩ := hf
        refine J_callV (ci := 11) (as := [.int p1, .int p2]) (rest := []) (sy := [.int x13]) Z.1 dX13_depends_40 cw_X13_583 (pX13_dependsOf_ok G (dk - 1) (by omega) q14) rfl rfl t0 (zG Z) rfl (by decide) (zF Z (by omega)) (zO Z (by omega) (by decide)) (zM _) Z.2.1 Z.2.1 rfl rfl ?_
        refine J_goto Z.1 52 dX13_depends_43 (by decide) ?_
        cases hf
        exact J_iret Z.1 Z.2.2.2.2.2 dX13_depends_52
    · rw [if_pos c8] at hf
      refine J_lv [0] rfl ?_
      exact pX13_depends_b26_ok Z hK t0  _ hf
theorem dX13_copy_0 : decode cX13_copy 0 = .ok (.iconst 0, 1) := by decide +kernel
theorem dX13_copy_1 : decode cX13_copy 1 = .ok (.istore_n 3, 1) := by decide +kernel
theorem dX13_copy_2 : decode cX13_copy 2 = .ok (.iload_n 3, 1) := by decide +kernel
theorem dX13_copy_3 : decode cX13_copy 3 = .ok (.sipush 246, 3) := by decide +kernel
theorem dX13_copy_6 : decode cX13_copy 6 = .ok (.if_icmp .ge 33, 3) := by decide +kernel
theorem dX13_copy_9 : decode cX13_copy 9 = .ok (.aload_n 0, 1) := by decide +kernel
theorem dX13_copy_10 : decode cX13_copy 10 = .ok (.getfield 31, 3) := by decide +kernel
theorem dX13_copy_13 : decode cX13_copy 13 = .ok (.sipush 246, 3) := by decide +kernel
theorem dX13_copy_16 : decode cX13_copy 16 = .ok (.iload_n 2, 1) := by decide +kernel
theorem dX13_copy_17 : decode cX13_copy 17 = .ok (.imul, 1) := by decide +kernel
theorem dX13_copy_18 : decode cX13_copy 18 = .ok (.iload_n 3, 1) := by decide +kernel
theorem dX13_copy_19 : decode cX13_copy 19 = .ok (.iadd, 1) := by decide +kernel
theorem dX13_copy_20 : decode cX13_copy 20 = .ok (.aload_n 0, 1) := by decide +kernel
theorem dX13_copy_21 : decode cX13_copy 21 = .ok (.getfield 31, 3) := by decide +kernel
theorem dX13_copy_24 : decode cX13_copy 24 = .ok (.sipush 246, 3) := by decide +kernel
theorem dX13_copy_27 : decode cX13_copy 27 = .ok (.iload_n 1, 1) := by decide +kernel
theorem dX13_copy_28 : decode cX13_copy 28 = .ok (.imul, 1) := by decide +kernel
theorem dX13_copy_29 : decode cX13_copy 29 = .ok (.iload_n 3, 1) := by decide +kernel
theorem dX13_copy_30 : decode cX13_copy 30 = .ok (.iadd, 1) := by decide +kernel
theorem dX13_copy_31 : decode cX13_copy 31 = .ok (.iaload, 1) := by decide +kernel
theorem dX13_copy_32 : decode cX13_copy 32 = .ok (.iastore, 1) := by decide +kernel
theorem dX13_copy_33 : decode cX13_copy 33 = .ok (.iinc 3 1, 3) := by decide +kernel
theorem dX13_copy_36 : decode cX13_copy 36 = .ok (.goto (-34), 3) := by decide +kernel
theorem dX13_copy_39 : decode cX13_copy 39 = .ok (.iconst 0, 1) := by decide +kernel
theorem dX13_copy_40 : decode cX13_copy 40 = .ok (.istore_n 3, 1) := by decide +kernel
theorem dX13_copy_41 : decode cX13_copy 41 = .ok (.iload_n 3, 1) := by decide +kernel
theorem dX13_copy_42 : decode cX13_copy 42 = .ok (.sipush 164, 3) := by decide +kernel
theorem dX13_copy_45 : decode cX13_copy 45 = .ok (.if_icmp .ge 33, 3) := by decide +kernel
theorem dX13_copy_48 : decode cX13_copy 48 = .ok (.aload_n 0, 1) := by decide +kernel
theorem dX13_copy_49 : decode cX13_copy 49 = .ok (.getfield 34, 3) := by decide +kernel
theorem dX13_copy_52 : decode cX13_copy 52 = .ok (.sipush 164, 3) := by decide +kernel
theorem dX13_copy_55 : decode cX13_copy 55 = .ok (.iload_n 2, 1) := by decide +kernel
theorem dX13_copy_56 : decode cX13_copy 56 = .ok (.imul, 1) := by decide +kernel
theorem dX13_copy_57 : decode cX13_copy 57 = .ok (.iload_n 3, 1) := by decide +kernel
theorem dX13_copy_58 : decode cX13_copy 58 = .ok (.iadd, 1) := by decide +kernel
theorem dX13_copy_59 : decode cX13_copy 59 = .ok (.aload_n 0, 1) := by decide +kernel
theorem dX13_copy_60 : decode cX13_copy 60 = .ok (.getfield 34, 3) := by decide +kernel
theorem dX13_copy_63 : decode cX13_copy 63 = .ok (.sipush 164, 3) := by decide +kernel
theorem dX13_copy_66 : decode cX13_copy 66 = .ok (.iload_n 1, 1) := by decide +kernel
theorem dX13_copy_67 : decode cX13_copy 67 = .ok (.imul, 1) := by decide +kernel
theorem dX13_copy_68 : decode cX13_copy 68 = .ok (.iload_n 3, 1) := by decide +kernel
theorem dX13_copy_69 : decode cX13_copy 69 = .ok (.iadd, 1) := by decide +kernel
theorem dX13_copy_70 : decode cX13_copy 70 = .ok (.daload, 1) := by decide +kernel
theorem dX13_copy_71 : decode cX13_copy 71 = .ok (.dastore, 1) := by decide +kernel
theorem dX13_copy_72 : decode cX13_copy 72 = .ok (.iinc 3 1, 3) := by decide +kernel
theorem dX13_copy_75 : decode cX13_copy 75 = .ok (.goto (-34), 3) := by decide +kernel
theorem dX13_copy_78 : decode cX13_copy 78 = .ok (.return_, 1) := by decide +kernel
def pX13_copy_b41 (g : MT) (this : Nat) (p1 : Int32) (p2 : Int32) (k41 : Int32 → CT → Option CT) (l3 : Int32) (h : CT) : Option CT := if 164 ≤ l3 then some h else lt (hR h this 20) fun r2 => (lt (hR h this 20) fun r3 => (nn r3 fun a3 => (tg g a3 22 (ix (gL g a3) ((164 * p1) + l3) (nn r2 fun a2 => (tg g a2 22 (ix (gL g a2) ((164 * p2) + l3) (lt (sD h a2 (Int32.toNatClampNeg ((164 * p2) + l3)) (hD h a3 (Int32.toNatClampNeg ((164 * p1) + l3)))) fun h8 => (lt (l3 + 1) fun x9 => (k41 x9 h8))))))))))
set_option maxRecDepth 10000 in
set_option maxHeartbeats 4000000 in
theorem pX13_copy_b41_ok {X : Cx} {G : Gx} {dk : Nat} {g : MT} {h0 : CT} {this : Nat} {p1 : Int32} {p2 : Int32} {k41 : Int32 → CT → Option CT} (Z : Zx X G cX13_copy RX13 4 dk none none g h0) (hK : 0 ≤ dk) (t0 : gT g this = 12) (hk41 : ∀ (l3 : Int32) (h : CT), k41 l3 h = some h0 → J X g h 41 [(0, va_rf (some this)), (1, .int p1), (2, .int p2), (3, .int l3)] []) (l3 : Int32) (h : CT) (hf : pX13_copy_b41 g this p1 p2 k41 l3 h = some h0) : J X g h 41 [(0, va_rf (some this)), (1, .int p1), (2, .int p2), (3, .int l3)] [] := by
  unfold pX13_copy_b41 at hf
  refine J_iload_n Z.1 3 dX13_copy_41 rfl rfl ?_
  refine J_sipush Z.1 (v := 164) (by decide) dX13_copy_42 ?_
  refine J_icmp_ge Z.1 78 dX13_copy_45 (by decide) (fun c1 => ?_) (fun c1 => ?_)
  · rw [if_pos c1] at hf
    cases hf
    exact J_vret Z.1 Z.2.2.2.2.2 dX13_copy_78
  · rw [if_neg c1] at hf
    refine J_aload_n Z.1 0 dX13_copy_48 rfl rfl ?_
    refine J_get (v := va_rf (hR h this 20)) Z.1 dX13_copy_49 fl_X13_34 t0 rfl ?_
    refine J_tr (fun r2 er2 => ?_)
    replace hf := lt_i hf r2 er2
    refine J_sipush Z.1 (v := 164) (by decide) dX13_copy_52 ?_
    refine J_iload_n Z.1 2 dX13_copy_55 rfl rfl ?_
    refine J_imul Z.1 dX13_copy_56 ?_
    refine J_iload_n Z.1 3 dX13_copy_57 rfl rfl ?_
    refine J_iadd Z.1 dX13_copy_58 ?_
    refine J_aload_n Z.1 0 dX13_copy_59 rfl rfl ?_
    refine J_get (v := va_rf (hR h this 20)) Z.1 dX13_copy_60 fl_X13_34 t0 rfl ?_
    refine J_tr (fun r3 er3 => ?_)
    replace hf := lt_i hf r3 er3
    refine J_sipush Z.1 (v := 164) (by decide) dX13_copy_63 ?_
    refine J_iload_n Z.1 1 dX13_copy_66 rfl rfl ?_
    refine J_imul Z.1 dX13_copy_67 ?_
    refine J_iload_n Z.1 3 dX13_copy_68 rfl rfl ?_
    refine J_iadd Z.1 dX13_copy_69 ?_
    replace hf := nn_i hf
    obtain ⟨a3, rfl, hf⟩ := hf
    replace hf := tg_i hf
    obtain ⟨t4, hf⟩ := hf
    replace hf := ix_i hf
    obtain ⟨i5, hf⟩ := hf
    refine J_daload Z.1 dX13_copy_70 t4 i5 ?_
    replace hf := nn_i hf
    obtain ⟨a2, rfl, hf⟩ := hf
    replace hf := tg_i hf
    obtain ⟨t6, hf⟩ := hf
    replace hf := ix_i hf
    obtain ⟨i7, hf⟩ := hf
    refine J_dastore Z.1 dX13_copy_71 t6 i7 ?_
    refine J_th (fun h8 eh8 => ?_)
    replace hf := lt_i hf h8 eh8
    refine J_iinc Z.1 (v := 1) (lv2 := [(3, .int (l3 + 1)), (0, va_rf (some this)), (1, .int p1), (2, .int p2)]) 3 dX13_copy_72 rfl (by decide) (zL Z (by decide)) rfl ?_
    obtain ⟨x9, ex9⟩ : ∃ z, z = (l3 + 1) := ⟨_, rfl⟩
    replace hf := lt_i hf x9 ex9
    rw [← ex9]
    refine J_goto Z.1 41 dX13_copy_75 (by decide) ?_
    refine J_lv [1, 2, 3, 0] rfl ?_
    exact hk41 _ _ hf
def pX13_copy_l41 (g : MT) (this : Nat) (p1 : Int32) (p2 : Int32) : Nat → Int32 → CT → Option CT
  | 0, _, _ => none
  | n + 1, l3, h => pX13_copy_b41 g this p1 p2 (pX13_copy_l41 g this p1 p2 n) l3 h
theorem pX13_copy_l41_ok {X : Cx} {G : Gx} {dk : Nat} {g : MT} {h0 : CT} {this : Nat} {p1 : Int32} {p2 : Int32} (Z : Zx X G cX13_copy RX13 4 dk none none g h0) (hK : 0 ≤ dk) (t0 : gT g this = 12) : ∀ (n : Nat) (l3 : Int32) (h : CT), pX13_copy_l41 g this p1 p2 n l3 h = some h0 → J X g h 41 [(0, va_rf (some this)), (1, .int p1), (2, .int p2), (3, .int l3)] [] := by
  intro n
  induction n with
  | zero => intro l3 h hf; cases hf
  | succ n ih => intro l3 h hf; exact pX13_copy_b41_ok Z hK t0 ih l3 h hf
def pX13_copy_b2 (g : MT) (this : Nat) (p1 : Int32) (p2 : Int32) (k2 : Int32 → CT → Option CT) (l3 : Int32) (h : CT) : Option CT := if 246 ≤ l3 then pX13_copy_l41 g this p1 p2  FUEL 0 h else lt (hR h this 19) fun r2 => (lt (hR h this 19) fun r3 => (nn r3 fun a3 => (tg g a3 20 (ix (gL g a3) ((246 * p1) + l3) (nn r2 fun a2 => (tg g a2 20 (ix (gL g a2) ((246 * p2) + l3) (lt (sI h a2 (Int32.toNatClampNeg ((246 * p2) + l3)) (hI h a3 (Int32.toNatClampNeg ((246 * p1) + l3)))) fun h8 => (lt (l3 + 1) fun x9 => (k2 x9 h8))))))))))
set_option maxRecDepth 10000 in
set_option maxHeartbeats 4000000 in
theorem pX13_copy_b2_ok {X : Cx} {G : Gx} {dk : Nat} {g : MT} {h0 : CT} {this : Nat} {p1 : Int32} {p2 : Int32} {k2 : Int32 → CT → Option CT} (Z : Zx X G cX13_copy RX13 4 dk none none g h0) (hK : 0 ≤ dk) (t0 : gT g this = 12) (hk2 : ∀ (l3 : Int32) (h : CT), k2 l3 h = some h0 → J X g h 2 [(0, va_rf (some this)), (1, .int p1), (2, .int p2), (3, .int l3)] []) (l3 : Int32) (h : CT) (hf : pX13_copy_b2 g this p1 p2 k2 l3 h = some h0) : J X g h 2 [(0, va_rf (some this)), (1, .int p1), (2, .int p2), (3, .int l3)] [] := by
  unfold pX13_copy_b2 at hf
  refine J_iload_n Z.1 3 dX13_copy_2 rfl rfl ?_
  refine J_sipush Z.1 (v := 246) (by decide) dX13_copy_3 ?_
  refine J_icmp_ge Z.1 39 dX13_copy_6 (by decide) (fun c1 => ?_) (fun c1 => ?_)
  · rw [if_pos c1] at hf
    refine J_iconst Z.1 (v := 0) (by decide) dX13_copy_39 ?_
    refine J_istore_n Z.1 (lv2 := [(3, .int 0), (0, va_rf (some this)), (1, .int p1), (2, .int p2)]) dX13_copy_40 rfl (zL Z (by decide)) rfl ?_
    refine J_lv [1, 2, 3, 0] rfl ?_
    exact pX13_copy_l41_ok Z hK t0  FUEL _ _ hf
  · rw [if_neg c1] at hf
    refine J_aload_n Z.1 0 dX13_copy_9 rfl rfl ?_
    refine J_get (v := va_rf (hR h this 19)) Z.1 dX13_copy_10 fl_X13_31 t0 rfl ?_
    refine J_tr (fun r2 er2 => ?_)
    replace hf := lt_i hf r2 er2
    refine J_sipush Z.1 (v := 246) (by decide) dX13_copy_13 ?_
    refine J_iload_n Z.1 2 dX13_copy_16 rfl rfl ?_
    refine J_imul Z.1 dX13_copy_17 ?_
    refine J_iload_n Z.1 3 dX13_copy_18 rfl rfl ?_
    refine J_iadd Z.1 dX13_copy_19 ?_
    refine J_aload_n Z.1 0 dX13_copy_20 rfl rfl ?_
    refine J_get (v := va_rf (hR h this 19)) Z.1 dX13_copy_21 fl_X13_31 t0 rfl ?_
    refine J_tr (fun r3 er3 => ?_)
    replace hf := lt_i hf r3 er3
    refine J_sipush Z.1 (v := 246) (by decide) dX13_copy_24 ?_
    refine J_iload_n Z.1 1 dX13_copy_27 rfl rfl ?_
    refine J_imul Z.1 dX13_copy_28 ?_
    refine J_iload_n Z.1 3 dX13_copy_29 rfl rfl ?_
    refine J_iadd Z.1 dX13_copy_30 ?_
    replace hf := nn_i hf
    obtain ⟨a3, rfl, hf⟩ := hf
    replace hf := tg_i hf
    obtain ⟨t4, hf⟩ := hf
    replace hf := ix_i hf
    obtain ⟨i5, hf⟩ := hf
    refine J_iaload Z.1 dX13_copy_31 t4 i5 ?_
    replace hf := nn_i hf
    obtain ⟨a2, rfl, hf⟩ := hf
    replace hf := tg_i hf
    obtain ⟨t6, hf⟩ := hf
    replace hf := ix_i hf
    obtain ⟨i7, hf⟩ := hf
    refine J_iastore Z.1 dX13_copy_32 t6 i7 ?_
    refine J_th (fun h8 eh8 => ?_)
    replace hf := lt_i hf h8 eh8
    refine J_iinc Z.1 (v := 1) (lv2 := [(3, .int (l3 + 1)), (0, va_rf (some this)), (1, .int p1), (2, .int p2)]) 3 dX13_copy_33 rfl (by decide) (zL Z (by decide)) rfl ?_
    obtain ⟨x9, ex9⟩ : ∃ z, z = (l3 + 1) := ⟨_, rfl⟩
    replace hf := lt_i hf x9 ex9
    rw [← ex9]
    refine J_goto Z.1 2 dX13_copy_36 (by decide) ?_
    refine J_lv [1, 2, 3, 0] rfl ?_
    exact hk2 _ _ hf
def pX13_copy_l2 (g : MT) (this : Nat) (p1 : Int32) (p2 : Int32) : Nat → Int32 → CT → Option CT
  | 0, _, _ => none
  | n + 1, l3, h => pX13_copy_b2 g this p1 p2 (pX13_copy_l2 g this p1 p2 n) l3 h
theorem pX13_copy_l2_ok {X : Cx} {G : Gx} {dk : Nat} {g : MT} {h0 : CT} {this : Nat} {p1 : Int32} {p2 : Int32} (Z : Zx X G cX13_copy RX13 4 dk none none g h0) (hK : 0 ≤ dk) (t0 : gT g this = 12) : ∀ (n : Nat) (l3 : Int32) (h : CT), pX13_copy_l2 g this p1 p2 n l3 h = some h0 → J X g h 2 [(0, va_rf (some this)), (1, .int p1), (2, .int p2), (3, .int l3)] [] := by
  intro n
  induction n with
  | zero => intro l3 h hf; cases hf
  | succ n ih => intro l3 h hf; exact pX13_copy_b2_ok Z hK t0 ih l3 h hf
def pX13_copy (g : MT) (h : CT) (this : Nat) (p1 : Int32) (p2 : Int32) : Option CT := tg g this 12 (pX13_copy_l2 g this p1 p2  FUEL 0 h)
set_option maxRecDepth 10000 in
set_option maxHeartbeats 4000000 in
theorem pX13_copy_ok (G : Gx) (dk : Nat) (hK : 0 ≤ dk) {g : MT} {h h0 : CT} {this : Nat} {p1 : Int32} {p2 : Int32} (hf : pX13_copy g h this p1 p2 = some h0) : Ctr G dk yX13_copy cX13_copy 4 none [va_rf (some this), .int p1, .int p2] g h none g h0 := by
  refine Ctr.ofZ (lv := [(0, va_rf (some this)), (1, .int p1), (2, .int p2)]) (by decide +kernel) (by simp [cat_i, cat_l, cat_d, cat_rf]) rfl fun X Z => ?_
  unfold pX13_copy at hf
  replace hf := tg_i hf
  obtain ⟨t0, hf⟩ := hf
  refine J_iconst Z.1 (v := 0) (by decide) dX13_copy_0 ?_
  refine J_istore_n Z.1 (lv2 := [(3, .int 0), (0, va_rf (some this)), (1, .int p1), (2, .int p2)]) dX13_copy_1 rfl (zL Z (by decide)) rfl ?_
  refine J_lv [1, 2, 3, 0] rfl ?_
  exact pX13_copy_l2_ok Z hK t0  FUEL _ _ hf
theorem dX13_exchanges_0 : decode cX13_exchanges 0 = .ok (.iconst 0, 1) := by decide +kernel
theorem dX13_exchanges_1 : decode cX13_exchanges 1 = .ok (.istore_n 2, 1) := by decide +kernel
theorem dX13_exchanges_2 : decode cX13_exchanges 2 = .ok (.iload_n 2, 1) := by decide +kernel
theorem dX13_exchanges_3 : decode cX13_exchanges 3 = .ok (.bipush 7, 2) := by decide +kernel
theorem dX13_exchanges_5 : decode cX13_exchanges 5 = .ok (.if_icmp .ge 53, 3) := by decide +kernel
theorem dX13_exchanges_8 : decode cX13_exchanges 8 = .ok (.bipush 6, 2) := by decide +kernel
theorem dX13_exchanges_10 : decode cX13_exchanges 10 = .ok (.bipush 8, 2) := by decide +kernel
theorem dX13_exchanges_12 : decode cX13_exchanges 12 = .ok (.iload_n 1, 1) := by decide +kernel
theorem dX13_exchanges_13 : decode cX13_exchanges 13 = .ok (.imul, 1) := by decide +kernel
theorem dX13_exchanges_14 : decode cX13_exchanges 14 = .ok (.iadd, 1) := by decide +kernel
theorem dX13_exchanges_15 : decode cX13_exchanges 15 = .ok (.iload_n 2, 1) := by decide +kernel
theorem dX13_exchanges_16 : decode cX13_exchanges 16 = .ok (.iadd, 1) := by decide +kernel
theorem dX13_exchanges_17 : decode cX13_exchanges 17 = .ok (.istore_n 3, 1) := by decide +kernel
theorem dX13_exchanges_18 : decode cX13_exchanges 18 = .ok (.aload_n 0, 1) := by decide +kernel
theorem dX13_exchanges_19 : decode cX13_exchanges 19 = .ok (.getfield 31, 3) := by decide +kernel
theorem dX13_exchanges_22 : decode cX13_exchanges 22 = .ok (.iload_n 3, 1) := by decide +kernel
theorem dX13_exchanges_23 : decode cX13_exchanges 23 = .ok (.iaload, 1) := by decide +kernel
theorem dX13_exchanges_24 : decode cX13_exchanges 24 = .ok (.istore 4, 2) := by decide +kernel
theorem dX13_exchanges_26 : decode cX13_exchanges 26 = .ok (.aload_n 0, 1) := by decide +kernel
theorem dX13_exchanges_27 : decode cX13_exchanges 27 = .ok (.getfield 31, 3) := by decide +kernel
theorem dX13_exchanges_30 : decode cX13_exchanges 30 = .ok (.iload_n 3, 1) := by decide +kernel
theorem dX13_exchanges_31 : decode cX13_exchanges 31 = .ok (.aload_n 0, 1) := by decide +kernel
theorem dX13_exchanges_32 : decode cX13_exchanges 32 = .ok (.getfield 31, 3) := by decide +kernel
theorem dX13_exchanges_35 : decode cX13_exchanges 35 = .ok (.iload_n 3, 1) := by decide +kernel
theorem dX13_exchanges_36 : decode cX13_exchanges 36 = .ok (.bipush 8, 2) := by decide +kernel
theorem dX13_exchanges_38 : decode cX13_exchanges 38 = .ok (.iadd, 1) := by decide +kernel
theorem dX13_exchanges_39 : decode cX13_exchanges 39 = .ok (.iaload, 1) := by decide +kernel
theorem dX13_exchanges_40 : decode cX13_exchanges 40 = .ok (.iastore, 1) := by decide +kernel
theorem dX13_exchanges_41 : decode cX13_exchanges 41 = .ok (.aload_n 0, 1) := by decide +kernel
theorem dX13_exchanges_42 : decode cX13_exchanges 42 = .ok (.getfield 31, 3) := by decide +kernel
theorem dX13_exchanges_45 : decode cX13_exchanges 45 = .ok (.iload_n 3, 1) := by decide +kernel
theorem dX13_exchanges_46 : decode cX13_exchanges 46 = .ok (.bipush 8, 2) := by decide +kernel
theorem dX13_exchanges_48 : decode cX13_exchanges 48 = .ok (.iadd, 1) := by decide +kernel
theorem dX13_exchanges_49 : decode cX13_exchanges 49 = .ok (.iload 4, 2) := by decide +kernel
theorem dX13_exchanges_51 : decode cX13_exchanges 51 = .ok (.iastore, 1) := by decide +kernel
theorem dX13_exchanges_52 : decode cX13_exchanges 52 = .ok (.iinc 2 1, 3) := by decide +kernel
theorem dX13_exchanges_55 : decode cX13_exchanges 55 = .ok (.goto (-53), 3) := by decide +kernel
theorem dX13_exchanges_58 : decode cX13_exchanges 58 = .ok (.return_, 1) := by decide +kernel
def pX13_exchanges_b2 (g : MT) (this : Nat) (p1 : Int32) (k2 : Int32 → CT → Option CT) (l2 : Int32) (h : CT) : Option CT := if 7 ≤ l2 then some h else lt ((6 + (8 * p1)) + l2) fun x2 => (lt (hR h this 19) fun r3 => (nn r3 fun a3 => (tg g a3 20 (ix (gL g a3) x2 (lt (hI h a3 (Int32.toNatClampNeg x2)) fun x6 => (lt (hR h this 19) fun r7 => (lt (hR h this 19) fun r8 => (nn r8 fun a8 => (tg g a8 20 (ix (gL g a8) (x2 + 8) (nn r7 fun a7 => (tg g a7 20 (ix (gL g a7) x2 (lt (sI h a7 (Int32.toNatClampNeg x2) (hI h a8 (Int32.toNatClampNeg (x2 + 8)))) fun h13 => (lt (hR h13 this 19) fun r14 => (nn r14 fun a14 => (tg g a14 20 (ix (gL g a14) (x2 + 8) (lt (sI h13 a14 (Int32.toNatClampNeg (x2 + 8)) x6) fun h17 => (lt (l2 + 1) fun x18 => (k2 x18 h17)))))))))))))))))))))
set_option maxRecDepth 10000 in
set_option maxHeartbeats 4000000 in
theorem pX13_exchanges_b2_ok {X : Cx} {G : Gx} {dk : Nat} {g : MT} {h0 : CT} {this : Nat} {p1 : Int32} {k2 : Int32 → CT → Option CT} (Z : Zx X G cX13_exchanges RX13 5 dk none none g h0) (hK : 0 ≤ dk) (t0 : gT g this = 12) (hk2 : ∀ (l2 : Int32) (h : CT), k2 l2 h = some h0 → J X g h 2 [(0, va_rf (some this)), (1, .int p1), (2, .int l2)] []) (l2 : Int32) (h : CT) (hf : pX13_exchanges_b2 g this p1 k2 l2 h = some h0) : J X g h 2 [(0, va_rf (some this)), (1, .int p1), (2, .int l2)] [] := by
  unfold pX13_exchanges_b2 at hf
  refine J_iload_n Z.1 2 dX13_exchanges_2 rfl rfl ?_
  refine J_bipush Z.1 (v := 7) (by decide) dX13_exchanges_3 ?_
  refine J_icmp_ge Z.1 58 dX13_exchanges_5 (by decide) (fun c1 => ?_) (fun c1 => ?_)
  · rw [if_pos c1] at hf
    cases hf
    exact J_vret Z.1 Z.2.2.2.2.2 dX13_exchanges_58
  · rw [if_neg c1] at hf
    refine J_bipush Z.1 (v := 6) (by decide) dX13_exchanges_8 ?_
    refine J_bipush Z.1 (v := 8) (by decide) dX13_exchanges_10 ?_
    refine J_iload_n Z.1 1 dX13_exchanges_12 rfl rfl ?_
    refine J_imul Z.1 dX13_exchanges_13 ?_
    refine J_iadd Z.1 dX13_exchanges_14 ?_
    refine J_iload_n Z.1 2 dX13_exchanges_15 rfl rfl ?_
    refine J_iadd Z.1 dX13_exchanges_16 ?_
    refine J_ti (fun x2 ex2 => ?_)
    replace hf := lt_i hf x2 ex2
    refine J_istore_n Z.1 (lv2 := [(3, .int x2), (0, va_rf (some this)), (1, .int p1), (2, .int l2)]) dX13_exchanges_17 rfl (zL Z (by decide)) rfl ?_
    refine J_aload_n Z.1 1 dX13_exchanges_18 rfl rfl ?_
    refine J_get (v := va_rf (hR h this 19)) Z.1 dX13_exchanges_19 fl_X13_31 t0 rfl ?_
    refine J_tr (fun r3 er3 => ?_)
    replace hf := lt_i hf r3 er3
    refine J_iload_n Z.1 0 dX13_exchanges_22 rfl rfl ?_
    replace hf := nn_i hf
    obtain ⟨a3, rfl, hf⟩ := hf
    replace hf := tg_i hf
    obtain ⟨t4, hf⟩ := hf
    replace hf := ix_i hf
    obtain ⟨i5, hf⟩ := hf
    refine J_iaload Z.1 dX13_exchanges_23 t4 i5 ?_
    refine J_ti (fun x6 ex6 => ?_)
    replace hf := lt_i hf x6 ex6
    refine J_istore Z.1 (lv2 := [(4, .int x6), (3, .int x2), (0, va_rf (some this)), (1, .int p1), (2, .int l2)]) dX13_exchanges_24 (zL Z (by decide)) rfl ?_
    refine J_aload_n Z.1 2 dX13_exchanges_26 rfl rfl ?_
    refine J_get (v := va_rf (hR h this 19)) Z.1 dX13_exchanges_27 fl_X13_31 t0 rfl ?_
    refine J_tr (fun r7 er7 => ?_)
    replace hf := lt_i hf r7 er7
    refine J_iload_n Z.1 1 dX13_exchanges_30 rfl rfl ?_
    refine J_aload_n Z.1 2 dX13_exchanges_31 rfl rfl ?_
    refine J_get (v := va_rf (hR h this 19)) Z.1 dX13_exchanges_32 fl_X13_31 t0 rfl ?_
    refine J_tr (fun r8 er8 => ?_)
    replace hf := lt_i hf r8 er8
    refine J_iload_n Z.1 1 dX13_exchanges_35 rfl rfl ?_
    refine J_bipush Z.1 (v := 8) (by decide) dX13_exchanges_36 ?_
    refine J_iadd Z.1 dX13_exchanges_38 ?_
    replace hf := nn_i hf
    obtain ⟨a8, rfl, hf⟩ := hf
    replace hf := tg_i hf
    obtain ⟨t9, hf⟩ := hf
    replace hf := ix_i hf
    obtain ⟨i10, hf⟩ := hf
    refine J_iaload Z.1 dX13_exchanges_39 t9 i10 ?_
    replace hf := nn_i hf
    obtain ⟨a7, rfl, hf⟩ := hf
    replace hf := tg_i hf
    obtain ⟨t11, hf⟩ := hf
    replace hf := ix_i hf
    obtain ⟨i12, hf⟩ := hf
    refine J_iastore Z.1 dX13_exchanges_40 t11 i12 ?_
    refine J_th (fun h13 eh13 => ?_)
    replace hf := lt_i hf h13 eh13
    refine J_aload_n Z.1 2 dX13_exchanges_41 rfl rfl ?_
    refine J_get (v := va_rf (hR h13 this 19)) Z.1 dX13_exchanges_42 fl_X13_31 t0 rfl ?_
    refine J_tr (fun r14 er14 => ?_)
    replace hf := lt_i hf r14 er14
    refine J_iload_n Z.1 1 dX13_exchanges_45 rfl rfl ?_
    refine J_bipush Z.1 (v := 8) (by decide) dX13_exchanges_46 ?_
    refine J_iadd Z.1 dX13_exchanges_48 ?_
    refine J_iload Z.1 0 dX13_exchanges_49 rfl ?_
    replace hf := nn_i hf
    obtain ⟨a14, rfl, hf⟩ := hf
    replace hf := tg_i hf
    obtain ⟨t15, hf⟩ := hf
    replace hf := ix_i hf
    obtain ⟨i16, hf⟩ := hf
    refine J_iastore Z.1 dX13_exchanges_51 t15 i16 ?_
    refine J_th (fun h17 eh17 => ?_)
    replace hf := lt_i hf h17 eh17
    refine J_iinc Z.1 (v := 1) (lv2 := [(2, .int (l2 + 1)), (4, .int x6), (3, .int x2), (0, va_rf (some this)), (1, .int p1)]) 4 dX13_exchanges_52 rfl (by decide) (zL Z (by decide)) rfl ?_
    obtain ⟨x18, ex18⟩ : ∃ z, z = (l2 + 1) := ⟨_, rfl⟩
    replace hf := lt_i hf x18 ex18
    rw [← ex18]
    refine J_goto Z.1 2 dX13_exchanges_55 (by decide) ?_
    refine J_lv [3, 4, 0] rfl ?_
    exact hk2 _ _ hf
def pX13_exchanges_l2 (g : MT) (this : Nat) (p1 : Int32) : Nat → Int32 → CT → Option CT
  | 0, _, _ => none
  | n + 1, l2, h => pX13_exchanges_b2 g this p1 (pX13_exchanges_l2 g this p1 n) l2 h
theorem pX13_exchanges_l2_ok {X : Cx} {G : Gx} {dk : Nat} {g : MT} {h0 : CT} {this : Nat} {p1 : Int32} (Z : Zx X G cX13_exchanges RX13 5 dk none none g h0) (hK : 0 ≤ dk) (t0 : gT g this = 12) : ∀ (n : Nat) (l2 : Int32) (h : CT), pX13_exchanges_l2 g this p1 n l2 h = some h0 → J X g h 2 [(0, va_rf (some this)), (1, .int p1), (2, .int l2)] [] := by
  intro n
  induction n with
  | zero => intro l2 h hf; cases hf
  | succ n ih => intro l2 h hf; exact pX13_exchanges_b2_ok Z hK t0 ih l2 h hf
def pX13_exchanges (g : MT) (h : CT) (this : Nat) (p1 : Int32) : Option CT := tg g this 12 (pX13_exchanges_l2 g this p1  FUEL 0 h)
set_option maxRecDepth 10000 in
set_option maxHeartbeats 4000000 in
theorem pX13_exchanges_ok (G : Gx) (dk : Nat) (hK : 0 ≤ dk) {g : MT} {h h0 : CT} {this : Nat} {p1 : Int32} (hf : pX13_exchanges g h this p1 = some h0) : Ctr G dk yX13_exchanges cX13_exchanges 5 none [va_rf (some this), .int p1] g h none g h0 := by
  refine Ctr.ofZ (lv := [(0, va_rf (some this)), (1, .int p1)]) (by decide +kernel) (by simp [cat_i, cat_l, cat_d, cat_rf]) rfl fun X Z => ?_
  unfold pX13_exchanges at hf
  replace hf := tg_i hf
  obtain ⟨t0, hf⟩ := hf
  refine J_iconst Z.1 (v := 0) (by decide) dX13_exchanges_0 ?_
  refine J_istore_n Z.1 (lv2 := [(2, .int 0), (0, va_rf (some this)), (1, .int p1)]) dX13_exchanges_1 rfl (zL Z (by decide)) rfl ?_
  refine J_lv [1, 2, 0] rfl ?_
  exact pX13_exchanges_l2_ok Z hK t0  FUEL _ _ hf
theorem dX13_isEndBehind_0 : decode cX13_isEndBehind 0 = .ok (.iconst 0, 1) := by decide +kernel
theorem dX13_isEndBehind_1 : decode cX13_isEndBehind 1 = .ok (.istore_n 2, 1) := by decide +kernel
theorem dX13_isEndBehind_2 : decode cX13_isEndBehind 2 = .ok (.iload_n 2, 1) := by decide +kernel
theorem dX13_isEndBehind_3 : decode cX13_isEndBehind 3 = .ok (.iload_n 1, 1) := by decide +kernel
theorem dX13_isEndBehind_4 : decode cX13_isEndBehind 4 = .ok (.if_icmp .gt 35, 3) := by decide +kernel
theorem dX13_isEndBehind_7 : decode cX13_isEndBehind 7 = .ok (.aload_n 0, 1) := by decide +kernel
theorem dX13_isEndBehind_8 : decode cX13_isEndBehind 8 = .ok (.iload_n 2, 1) := by decide +kernel
theorem dX13_isEndBehind_9 : decode cX13_isEndBehind 9 = .ok (.iconst 0, 1) := by decide +kernel
theorem dX13_isEndBehind_10 : decode cX13_isEndBehind 10 = .ok (.invokevirtual 381, 3) := by decide +kernel
theorem dX13_isEndBehind_13 : decode cX13_isEndBehind 13 = .ok (.bipush 25, 2) := by decide +kernel
theorem dX13_isEndBehind_15 : decode cX13_isEndBehind 15 = .ok (.if_icmp .ne 18, 3) := by decide +kernel
theorem dX13_isEndBehind_18 : decode cX13_isEndBehind 18 = .ok (.aload_n 0, 1) := by decide +kernel
theorem dX13_isEndBehind_19 : decode cX13_isEndBehind 19 = .ok (.iload_n 2, 1) := by decide +kernel
theorem dX13_isEndBehind_20 : decode cX13_isEndBehind 20 = .ok (.bipush 7, 2) := by decide +kernel
theorem dX13_isEndBehind_22 : decode cX13_isEndBehind 22 = .ok (.invokevirtual 381, 3) := by decide +kernel
theorem dX13_isEndBehind_25 : decode cX13_isEndBehind 25 = .ok (.iload_n 1, 1) := by decide +kernel
theorem dX13_isEndBehind_26 : decode cX13_isEndBehind 26 = .ok (.iconst 1, 1) := by decide +kernel
theorem dX13_isEndBehind_27 : decode cX13_isEndBehind 27 = .ok (.iadd, 1) := by decide +kernel
theorem dX13_isEndBehind_28 : decode cX13_isEndBehind 28 = .ok (.if_icmp .ne 5, 3) := by decide +kernel
theorem dX13_isEndBehind_31 : decode cX13_isEndBehind 31 = .ok (.iconst 1, 1) := by decide +kernel
theorem dX13_isEndBehind_32 : decode cX13_isEndBehind 32 = .ok (.ireturn, 1) := by decide +kernel
theorem dX13_isEndBehind_33 : decode cX13_isEndBehind 33 = .ok (.iinc 2 1, 3) := by decide +kernel
theorem dX13_isEndBehind_36 : decode cX13_isEndBehind 36 = .ok (.goto (-34), 3) := by decide +kernel
theorem dX13_isEndBehind_39 : decode cX13_isEndBehind 39 = .ok (.iconst 0, 1) := by decide +kernel
theorem dX13_isEndBehind_40 : decode cX13_isEndBehind 40 = .ok (.ireturn, 1) := by decide +kernel
def pX13_isEndBehind_b33 (g : MT) (h : CT) (this : Nat) (p1 : Int32) (k2 : Int32 → Option Int32) (l2 : Int32) : Option Int32 := lt (l2 + 1) fun x1 => (k2 x1)
set_option maxRecDepth 10000 in
set_option maxHeartbeats 4000000 in
theorem pX13_isEndBehind_b33_ok {X : Cx} {G : Gx} {dk : Nat} {g : MT} {r0 : Int32} {h : CT} {this : Nat} {p1 : Int32} {k2 : Int32 → Option Int32} (Z : Zx X G cX13_isEndBehind RX13 3 dk (some .boolean) (some (.int r0)) g h) (hK : 1 ≤ dk) (t0 : gT g this = 12) (hk2 : ∀ (l2 : Int32), k2 l2 = some r0 → J X g h 2 [(0, va_rf (some this)), (1, .int p1), (2, .int l2)] []) (l2 : Int32) (hf : pX13_isEndBehind_b33 g h this p1 k2 l2 = some r0) : J X g h 33 [(0, va_rf (some this)), (1, .int p1), (2, .int l2)] [] := by
  unfold pX13_isEndBehind_b33 at hf
  refine J_iinc Z.1 (v := 1) (lv2 := [(2, .int (l2 + 1)), (0, va_rf (some this)), (1, .int p1)]) 2 dX13_isEndBehind_33 rfl (by decide) (zL Z (by decide)) rfl ?_
  obtain ⟨x1, ex1⟩ : ∃ z, z = (l2 + 1) := ⟨_, rfl⟩
  replace hf := lt_i hf x1 ex1
  rw [← ex1]
  refine J_goto Z.1 2 dX13_isEndBehind_36 (by decide) ?_
  refine J_lv [1, 2, 0] rfl ?_
  exact hk2 _ hf
def pX13_isEndBehind_b2 (g : MT) (h : CT) (this : Nat) (p1 : Int32) (k2 : Int32 → Option Int32) (l2 : Int32) : Option Int32 := if p1 < l2 then some 0 else bd (pX13_at g h this l2 0) fun x2 => (if x2 = 25 then bd (pX13_at g h this l2 7) fun x5 => (if x5 = (p1 + 1) then some 1 else pX13_isEndBehind_b33 g h this p1 k2 l2) else pX13_isEndBehind_b33 g h this p1 k2 l2)
set_option maxRecDepth 10000 in
set_option maxHeartbeats 4000000 in
theorem pX13_isEndBehind_b2_ok {X : Cx} {G : Gx} {dk : Nat} {g : MT} {r0 : Int32} {h : CT} {this : Nat} {p1 : Int32} {k2 : Int32 → Option Int32} (Z : Zx X G cX13_isEndBehind RX13 3 dk (some .boolean) (some (.int r0)) g h) (hK : 1 ≤ dk) (t0 : gT g this = 12) (hk2 : ∀ (l2 : Int32), k2 l2 = some r0 → J X g h 2 [(0, va_rf (some this)), (1, .int p1), (2, .int l2)] []) (l2 : Int32) (hf : pX13_isEndBehind_b2 g h this p1 k2 l2 = some r0) : J X g h 2 [(0, va_rf (some this)), (1, .int p1), (2, .int l2)] [] := by
  unfold pX13_isEndBehind_b2 at hf
  refine J_iload_n Z.1 2 dX13_isEndBehind_2 rfl rfl ?_
  refine J_iload_n Z.1 1 dX13_isEndBehind_3 rfl rfl ?_
  refine J_icmp_gt Z.1 39 dX13_isEndBehind_4 (by decide) (fun c1 => ?_) (fun c1 => ?_)
  · rw [if_pos c1] at hf
    refine J_iconst Z.1 (v := 0) (by decide) dX13_isEndBehind_39 ?_
    cases hf
    exact J_zret Z.1 Z.2.2.2.2.2 (z_n (Or.inl rfl)) dX13_isEndBehind_40
  · rw [if_neg c1] at hf
    refine J_aload_n Z.1 0 dX13_isEndBehind_7 rfl rfl ?_
    refine J_iload_n Z.1 2 dX13_isEndBehind_8 rfl rfl ?_
    refine J_iconst Z.1 (v := 0) (by decide) dX13_isEndBehind_9 ?_
    replace hf := bd_i hf
    obtain ⟨x2, q3, hf⟩ := hf
    refine J_callV (ci := 11) (as := [.int l2, .int 0]) (rest := []) (sy := [.int x2]) Z.1 dX13_isEndBehind_10 cw_X13_381 (pX13_at_ok G (dk - 1) (by omega) q3) rfl rfl t0 (zG Z) rfl (by decide) (zF Z (by omega)) (zO Z (by omega) (by decide)) (zM _) Z.2.1 Z.2.1 rfl rfl ?_
    refine J_bipush Z.1 (v := 25) (by decide) dX13_isEndBehind_13 ?_
    refine J_icmp_ne Z.1 33 dX13_isEndBehind_15 (by decide) (fun c4 => ?_) (fun c4 => ?_)
    · rw [if_neg c4] at hf
      exact pX13_isEndBehind_b33_ok Z hK t0 hk2 _ hf
    · rw [if_pos c4] at hf
      refine J_aload_n Z.1 0 dX13_isEndBehind_18 rfl rfl ?_
      refine J_iload_n Z.1 2 dX13_isEndBehind_19 rfl rfl ?_
      refine J_bipush Z.1 (v := 7) (by decide) dX13_isEndBehind_20 ?_
      replace hf := bd_i hf
      obtain ⟨x5, q6, hf⟩ := hf
      refine J_callV (ci := 11) (as := [.int l2, .int 7]) (rest := []) (sy := [.int x5]) Z.1 dX13_isEndBehind_22 cw_X13_381 (pX13_at_ok G (dk - 1) (by omega) q6) rfl rfl t0 (zG Z) rfl (by decide) (zF Z (by omega)) (zO Z (by omega) (by decide)) (zM _) Z.2.1 Z.2.1 rfl rfl ?_
      refine J_iload_n Z.1 1 dX13_isEndBehind_25 rfl rfl ?_
      refine J_iconst Z.1 (v := 1) (by decide) dX13_isEndBehind_26 ?_
      refine J_iadd Z.1 dX13_isEndBehind_27 ?_
      refine J_icmp_ne Z.1 33 dX13_isEndBehind_28 (by decide) (fun c7 => ?_) (fun c7 => ?_)
      · rw [if_neg c7] at hf
        exact pX13_isEndBehind_b33_ok Z hK t0 hk2 _ hf
      · rw [if_pos c7] at hf
        refine J_iconst Z.1 (v := 1) (by decide) dX13_isEndBehind_31 ?_
        cases hf
        exact J_zret Z.1 Z.2.2.2.2.2 (z_n (Or.inr rfl)) dX13_isEndBehind_32
def pX13_isEndBehind_l2 (g : MT) (h : CT) (this : Nat) (p1 : Int32) : Nat → Int32 → Option Int32
  | 0, _ => none
  | n + 1, l2 => pX13_isEndBehind_b2 g h this p1 (pX13_isEndBehind_l2 g h this p1 n) l2
theorem pX13_isEndBehind_l2_ok {X : Cx} {G : Gx} {dk : Nat} {g : MT} {r0 : Int32} {h : CT} {this : Nat} {p1 : Int32} (Z : Zx X G cX13_isEndBehind RX13 3 dk (some .boolean) (some (.int r0)) g h) (hK : 1 ≤ dk) (t0 : gT g this = 12) : ∀ (n : Nat) (l2 : Int32), pX13_isEndBehind_l2 g h this p1 n l2 = some r0 → J X g h 2 [(0, va_rf (some this)), (1, .int p1), (2, .int l2)] [] := by
  intro n
  induction n with
  | zero => intro l2 hf; cases hf
  | succ n ih => intro l2 hf; exact pX13_isEndBehind_b2_ok Z hK t0 ih l2 hf
def pX13_isEndBehind (g : MT) (h : CT) (this : Nat) (p1 : Int32) : Option Int32 := tg g this 12 (pX13_isEndBehind_l2 g h this p1  FUEL 0)
set_option maxRecDepth 10000 in
set_option maxHeartbeats 4000000 in
theorem pX13_isEndBehind_ok (G : Gx) (dk : Nat) (hK : 1 ≤ dk) {g : MT} {h : CT} {this : Nat} {p1 : Int32} {r0 : Int32} (hf : pX13_isEndBehind g h this p1 = some r0) : Ctr G dk yX13_isEndBehind cX13_isEndBehind 3 (some .boolean) [va_rf (some this), .int p1] g h (some (.int r0)) g h := by
  refine Ctr.ofZ (lv := [(0, va_rf (some this)), (1, .int p1)]) (by decide +kernel) (by simp [cat_i, cat_l, cat_d, cat_rf]) rfl fun X Z => ?_
  unfold pX13_isEndBehind at hf
  replace hf := tg_i hf
  obtain ⟨t0, hf⟩ := hf
  refine J_iconst Z.1 (v := 0) (by decide) dX13_isEndBehind_0 ?_
  refine J_istore_n Z.1 (lv2 := [(2, .int 0), (0, va_rf (some this)), (1, .int p1)]) dX13_isEndBehind_1 rfl (zL Z (by decide)) rfl ?_
  refine J_lv [1, 2, 0] rfl ?_
  exact pX13_isEndBehind_l2_ok Z hK t0  FUEL _ hf
theorem dX13_whyNoSwap_0 : decode cX13_whyNoSwap 0 = .ok (.aload_n 0, 1) := by decide +kernel
theorem dX13_whyNoSwap_1 : decode cX13_whyNoSwap 1 = .ok (.iload_n 1, 1) := by decide +kernel
theorem dX13_whyNoSwap_2 : decode cX13_whyNoSwap 2 = .ok (.invokevirtual 544, 3) := by decide +kernel
theorem dX13_whyNoSwap_5 : decode cX13_whyNoSwap 5 = .ok (.ifCond .eq 13, 3) := by decide +kernel
theorem dX13_whyNoSwap_8 : decode cX13_whyNoSwap 8 = .ok (.aload_n 0, 1) := by decide +kernel
theorem dX13_whyNoSwap_9 : decode cX13_whyNoSwap 9 = .ok (.iload_n 1, 1) := by decide +kernel
theorem dX13_whyNoSwap_10 : decode cX13_whyNoSwap 10 = .ok (.iconst 1, 1) := by decide +kernel
theorem dX13_whyNoSwap_11 : decode cX13_whyNoSwap 11 = .ok (.iadd, 1) := by decide +kernel
theorem dX13_whyNoSwap_12 : decode cX13_whyNoSwap 12 = .ok (.invokevirtual 544, 3) := by decide +kernel
theorem dX13_whyNoSwap_15 : decode cX13_whyNoSwap 15 = .ok (.ifCond .ne 5, 3) := by decide +kernel
theorem dX13_whyNoSwap_18 : decode cX13_whyNoSwap 18 = .ok (.iconst 2, 1) := by decide +kernel
theorem dX13_whyNoSwap_19 : decode cX13_whyNoSwap 19 = .ok (.ireturn, 1) := by decide +kernel
theorem dX13_whyNoSwap_20 : decode cX13_whyNoSwap 20 = .ok (.aload_n 0, 1) := by decide +kernel
theorem dX13_whyNoSwap_21 : decode cX13_whyNoSwap 21 = .ok (.iload_n 1, 1) := by decide +kernel
theorem dX13_whyNoSwap_22 : decode cX13_whyNoSwap 22 = .ok (.iload_n 1, 1) := by decide +kernel
theorem dX13_whyNoSwap_23 : decode cX13_whyNoSwap 23 = .ok (.iconst 1, 1) := by decide +kernel
theorem dX13_whyNoSwap_24 : decode cX13_whyNoSwap 24 = .ok (.iadd, 1) := by decide +kernel
theorem dX13_whyNoSwap_25 : decode cX13_whyNoSwap 25 = .ok (.invokevirtual 583, 3) := by decide +kernel
theorem dX13_whyNoSwap_28 : decode cX13_whyNoSwap 28 = .ok (.ifCond .ne 11, 3) := by decide +kernel
theorem dX13_whyNoSwap_31 : decode cX13_whyNoSwap 31 = .ok (.aload_n 0, 1) := by decide +kernel
theorem dX13_whyNoSwap_32 : decode cX13_whyNoSwap 32 = .ok (.iload_n 1, 1) := by decide +kernel
theorem dX13_whyNoSwap_33 : decode cX13_whyNoSwap 33 = .ok (.invokevirtual 586, 3) := by decide +kernel
theorem dX13_whyNoSwap_36 : decode cX13_whyNoSwap 36 = .ok (.ifCond .eq 8, 3) := by decide +kernel
theorem dX13_whyNoSwap_39 : decode cX13_whyNoSwap 39 = .ok (.bipush 9, 2) := by decide +kernel
theorem dX13_whyNoSwap_41 : decode cX13_whyNoSwap 41 = .ok (.goto 4, 3) := by decide +kernel
theorem dX13_whyNoSwap_44 : decode cX13_whyNoSwap 44 = .ok (.iconst 0, 1) := by decide +kernel
theorem dX13_whyNoSwap_45 : decode cX13_whyNoSwap 45 = .ok (.ireturn, 1) := by decide +kernel
def pX13_whyNoSwap_b39 (g : MT) (h : CT) (this : Nat) (p1 : Int32)  : Option Int32 := some 9
set_option maxRecDepth 10000 in
set_option maxHeartbeats 4000000 in
theorem pX13_whyNoSwap_b39_ok {X : Cx} {G : Gx} {dk : Nat} {g : MT} {r0 : Int32} {h : CT} {this : Nat} {p1 : Int32} (Z : Zx X G cX13_whyNoSwap RX13 2 dk (some .int) (some (.int r0)) g h) (hK : 4 ≤ dk) (t0 : gT g this = 12)  (hf : pX13_whyNoSwap_b39 g h this p1 = some r0) : J X g h 39 [] [] := by
  unfold pX13_whyNoSwap_b39 at hf
  refine J_bipush Z.1 (v := 9) (by decide) dX13_whyNoSwap_39 ?_
  refine J_goto Z.1 45 dX13_whyNoSwap_41 (by decide) ?_
  cases hf
  exact J_iret Z.1 Z.2.2.2.2.2 dX13_whyNoSwap_45
def pX13_whyNoSwap (g : MT) (h : CT) (this : Nat) (p1 : Int32) : Option Int32 := tg g this 12 (bd (pX13_isCode g h this p1) fun x1 => (if x1 = 0 then some 2 else bd (pX13_isCode g h this (p1 + 1)) fun x4 => (if x4 = 0 then some 2 else bd (pX13_dependsOf g h this p1 (p1 + 1)) fun x7 => (if x7 = 0 then bd (pX13_isEndBehind g h this p1) fun x10 => (if x10 = 0 then some 0 else pX13_whyNoSwap_b39 g h this p1  ) else pX13_whyNoSwap_b39 g h this p1  ))))
set_option maxRecDepth 10000 in
set_option maxHeartbeats 4000000 in
theorem pX13_whyNoSwap_ok (G : Gx) (dk : Nat) (hK : 4 ≤ dk) {g : MT} {h : CT} {this : Nat} {p1 : Int32} {r0 : Int32} (hf : pX13_whyNoSwap g h this p1 = some r0) : Ctr G dk yX13_whyNoSwap cX13_whyNoSwap 2 (some .int) [va_rf (some this), .int p1] g h (some (.int r0)) g h := by
  refine Ctr.ofZ (lv := [(0, va_rf (some this)), (1, .int p1)]) (by decide +kernel) (by simp [cat_i, cat_l, cat_d, cat_rf]) rfl fun X Z => ?_
  unfold pX13_whyNoSwap at hf
  replace hf := tg_i hf
  obtain ⟨t0, hf⟩ := hf
  refine J_aload_n Z.1 0 dX13_whyNoSwap_0 rfl rfl ?_
  refine J_iload_n Z.1 1 dX13_whyNoSwap_1 rfl rfl ?_
  replace hf := bd_i hf
  obtain ⟨x1, q2, hf⟩ := hf
  refine J_callV (ci := 11) (as := [.int p1]) (rest := []) (sy := [.int x1]) Z.1 dX13_whyNoSwap_2 cw_X13_544 (pX13_isCode_ok G (dk - 1) (by omega) q2) rfl rfl t0 (zG Z) rfl (by decide) (zF Z (by omega)) (zO Z (by omega) (by decide)) (zM _) Z.2.1 Z.2.1 rfl rfl ?_
  refine J_if_eq Z.1 18 dX13_whyNoSwap_5 (by decide) (fun c3 => ?_) (fun c3 => ?_)
  · rw [if_pos c3] at hf
    refine J_iconst Z.1 (v := 2) (by decide) dX13_whyNoSwap_18 ?_
    cases hf
    exact J_iret Z.1 Z.2.2.2.2.2 dX13_whyNoSwap_19
  · rw [if_neg c3] at hf
    refine J_aload_n Z.1 0 dX13_whyNoSwap_8 rfl rfl ?_
    refine J_iload_n Z.1 1 dX13_whyNoSwap_9 rfl rfl ?_
    refine J_iconst Z.1 (v := 1) (by decide) dX13_whyNoSwap_10 ?_
    refine J_iadd Z.1 dX13_whyNoSwap_11 ?_
    replace hf := bd_i hf
    obtain ⟨x4, q5, hf⟩ := hf
    refine J_callV (ci := 11) (as := [.int (p1 + 1)]) (rest := []) (sy := [.int x4]) Z.1 dX13_whyNoSwap_12 cw_X13_544 (pX13_isCode_ok G (dk - 1) (by omega) q5) rfl rfl t0 (zG Z) rfl (by decide) (zF Z (by omega)) (zO Z (by omega) (by decide)) (zM _) Z.2.1 Z.2.1 rfl rfl ?_
    refine J_if_ne Z.1 20 dX13_whyNoSwap_15 (by decide) (fun c6 => ?_) (fun c6 => ?_)
    · rw [if_neg c6] at hf
      refine J_aload_n Z.1 0 dX13_whyNoSwap_20 rfl rfl ?_
      refine J_iload_n Z.1 1 dX13_whyNoSwap_21 rfl rfl ?_
      refine J_iload_n Z.1 1 dX13_whyNoSwap_22 rfl rfl ?_
      refine J_iconst Z.1 (v := 1) (by decide) dX13_whyNoSwap_23 ?_
      refine J_iadd Z.1 dX13_whyNoSwap_24 ?_
      replace hf := bd_i hf
      obtain ⟨x7, q8, hf⟩ := hf
      refine J_callV (ci := 11) (as := [.int p1, .int (p1 + 1)]) (rest := []) (sy := [.int x7]) Z.1 dX13_whyNoSwap_25 cw_X13_583 (pX13_dependsOf_ok G (dk - 1) (by omega) q8) rfl rfl t0 (zG Z) rfl (by decide) (zF Z (by omega)) (zO Z (by omega) (by decide)) (zM _) Z.2.1 Z.2.1 rfl rfl ?_
      refine J_if_ne Z.1 39 dX13_whyNoSwap_28 (by decide) (fun c9 => ?_) (fun c9 => ?_)
      · rw [if_neg c9] at hf
        refine J_lv [] rfl ?_
        exact pX13_whyNoSwap_b39_ok Z hK t0   hf
      · rw [if_pos c9] at hf
        refine J_aload_n Z.1 0 dX13_whyNoSwap_31 rfl rfl ?_
        refine J_iload_n Z.1 1 dX13_whyNoSwap_32 rfl rfl ?_
        replace hf := bd_i hf
        obtain ⟨x10, q11, hf⟩ := hf
        refine J_callV (ci := 11) (as := [.int p1]) (rest := []) (sy := [.int x10]) Z.1 dX13_whyNoSwap_33 cw_X13_586 (pX13_isEndBehind_ok G (dk - 1) (by omega) q11) rfl rfl t0 (zG Z) rfl (by decide) (zF Z (by omega)) (zO Z (by omega) (by decide)) (zM _) Z.2.1 Z.2.1 rfl rfl ?_
        refine J_if_eq Z.1 44 dX13_whyNoSwap_36 (by decide) (fun c12 => ?_) (fun c12 => ?_)
        · rw [if_pos c12] at hf
          refine J_iconst Z.1 (v := 0) (by decide) dX13_whyNoSwap_44 ?_
          cases hf
          exact J_iret Z.1 Z.2.2.2.2.2 dX13_whyNoSwap_45
        · rw [if_neg c12] at hf
          refine J_lv [] rfl ?_
          exact pX13_whyNoSwap_b39_ok Z hK t0   hf
    · rw [if_pos c6] at hf
      refine J_iconst Z.1 (v := 2) (by decide) dX13_whyNoSwap_18 ?_
      cases hf
      exact J_iret Z.1 Z.2.2.2.2.2 dX13_whyNoSwap_19
theorem dX13_mark_0 : decode cX13_mark 0 = .ok (.aload_n 0, 1) := by decide +kernel
theorem dX13_mark_1 : decode cX13_mark 1 = .ok (.iconst 0, 1) := by decide +kernel
theorem dX13_mark_2 : decode cX13_mark 2 = .ok (.putfield 71, 3) := by decide +kernel
theorem dX13_mark_5 : decode cX13_mark 5 = .ok (.aload_n 0, 1) := by decide +kernel
theorem dX13_mark_6 : decode cX13_mark 6 = .ok (.iconst 0, 1) := by decide +kernel
theorem dX13_mark_7 : decode cX13_mark 7 = .ok (.putfield 74, 3) := by decide +kernel
theorem dX13_mark_10 : decode cX13_mark 10 = .ok (.aload_n 0, 1) := by decide +kernel
theorem dX13_mark_11 : decode cX13_mark 11 = .ok (.getfield 607, 3) := by decide +kernel
theorem dX13_mark_14 : decode cX13_mark 14 = .ok (.iconst 3, 1) := by decide +kernel
theorem dX13_mark_15 : decode cX13_mark 15 = .ok (.if_icmp .ne 10, 3) := by decide +kernel
theorem dX13_mark_18 : decode cX13_mark 18 = .ok (.aload_n 0, 1) := by decide +kernel
theorem dX13_mark_19 : decode cX13_mark 19 = .ok (.bipush 7, 2) := by decide +kernel
theorem dX13_mark_21 : decode cX13_mark 21 = .ok (.invokevirtual 268, 3) := by decide +kernel
theorem dX13_mark_24 : decode cX13_mark 24 = .ok (.ireturn, 1) := by decide +kernel
theorem dX13_mark_25 : decode cX13_mark 25 = .ok (.aload_n 0, 1) := by decide +kernel
theorem dX13_mark_26 : decode cX13_mark 26 = .ok (.dup, 1) := by decide +kernel
theorem dX13_mark_27 : decode cX13_mark 27 = .ok (.getfield 607, 3) := by decide +kernel
theorem dX13_mark_30 : decode cX13_mark 30 = .ok (.iconst 1, 1) := by decide +kernel
theorem dX13_mark_31 : decode cX13_mark 31 = .ok (.iadd, 1) := by decide +kernel
theorem dX13_mark_32 : decode cX13_mark 32 = .ok (.putfield 607, 3) := by decide +kernel
theorem dX13_mark_35 : decode cX13_mark 35 = .ok (.aload_n 0, 1) := by decide +kernel
theorem dX13_mark_36 : decode cX13_mark 36 = .ok (.iconst 0, 1) := by decide +kernel
theorem dX13_mark_37 : decode cX13_mark 37 = .ok (.aload_n 0, 1) := by decide +kernel
theorem dX13_mark_38 : decode cX13_mark 38 = .ok (.getfield 607, 3) := by decide +kernel
theorem dX13_mark_41 : decode cX13_mark 41 = .ok (.invokevirtual 589, 3) := by decide +kernel
theorem dX13_mark_44 : decode cX13_mark 44 = .ok (.aload_n 0, 1) := by decide +kernel
theorem dX13_mark_45 : decode cX13_mark 45 = .ok (.getfield 607, 3) := by decide +kernel
theorem dX13_mark_48 : decode cX13_mark 48 = .ok (.ireturn, 1) := by decide +kernel
def pX13_mark (g : MT) (h : CT) (this : Nat) : Option ((Int32) × CT) := tg g this 12 (lt (sI h this 1 0) fun h1 => (lt (sI h1 this 0 0) fun h2 => (if (hI h2 this 21) = 3 then bd2 (pX13_refuse g h2 this 7) fun x9 h7 => (some (x9, h7)) else lt (sI h2 this 21 ((hI h2 this 21) + 1)) fun h4 => (bd (pX13_copy g h4 this 0 (hI h4 this 21)) fun h5 => (some ((hI h5 this 21), h5))))))
set_option maxRecDepth 10000 in
set_option maxHeartbeats 4000000 in
theorem pX13_mark_ok (G : Gx) (dk : Nat) (hK : 1 ≤ dk) {g : MT} {h h0 : CT} {this : Nat} {r0 : Int32} (hf : pX13_mark g h this = some (r0, h0)) : Ctr G dk yX13_mark cX13_mark 1 (some .int) [va_rf (some this)] g h (some (.int r0)) g h0 := by
  refine Ctr.ofZ (lv := [(0, va_rf (some this))]) (by decide +kernel) (by simp [cat_i, cat_l, cat_d, cat_rf]) rfl fun X Z => ?_
  unfold pX13_mark at hf
  replace hf := tg_i hf
  obtain ⟨t0, hf⟩ := hf
  refine J_aload_n Z.1 0 dX13_mark_0 rfl rfl ?_
  refine J_iconst Z.1 (v := 0) (by decide) dX13_mark_1 ?_
  refine J_putI Z.1 dX13_mark_2 fl_X13_71 (fun q => by cases q) t0 rfl rfl (congrArg Value.int (hI_s _ _ _ _)) ?_
  refine J_th (fun h1 eh1 => ?_)
  replace hf := lt_i hf h1 eh1
  refine J_aload_n Z.1 0 dX13_mark_5 rfl rfl ?_
  refine J_iconst Z.1 (v := 0) (by decide) dX13_mark_6 ?_
  refine J_putI Z.1 dX13_mark_7 fl_X13_74 (fun q => by cases q) t0 rfl rfl (congrArg Value.int (hI_s _ _ _ _)) ?_
  refine J_th (fun h2 eh2 => ?_)
  replace hf := lt_i hf h2 eh2
  refine J_aload_n Z.1 0 dX13_mark_10 rfl rfl ?_
  refine J_get (v := .int (hI h2 this 21)) Z.1 dX13_mark_11 fl_X13_607 t0 rfl ?_
  refine J_iconst Z.1 (v := 3) (by decide) dX13_mark_14 ?_
  refine J_icmp_ne Z.1 25 dX13_mark_15 (by decide) (fun c3 => ?_) (fun c3 => ?_)
  · rw [if_neg c3] at hf
    refine J_aload_n Z.1 0 dX13_mark_25 rfl rfl ?_
    refine J_dup Z.1 dX13_mark_26 rfl ?_
    refine J_get (v := .int (hI h2 this 21)) Z.1 dX13_mark_27 fl_X13_607 t0 rfl ?_
    refine J_iconst Z.1 (v := 1) (by decide) dX13_mark_30 ?_
    refine J_iadd Z.1 dX13_mark_31 ?_
    refine J_putI Z.1 dX13_mark_32 fl_X13_607 (fun q => by cases q) t0 rfl rfl (congrArg Value.int (hI_s _ _ _ _)) ?_
    refine J_th (fun h4 eh4 => ?_)
    replace hf := lt_i hf h4 eh4
    refine J_aload_n Z.1 0 dX13_mark_35 rfl rfl ?_
    refine J_iconst Z.1 (v := 0) (by decide) dX13_mark_36 ?_
    refine J_aload_n Z.1 0 dX13_mark_37 rfl rfl ?_
    refine J_get (v := .int (hI h4 this 21)) Z.1 dX13_mark_38 fl_X13_607 t0 rfl ?_
    replace hf := bd_i hf
    obtain ⟨h5, q6, hf⟩ := hf
    refine J_callV (ci := 11) (as := [.int 0, .int (hI h4 this 21)]) (rest := []) (sy := []) Z.1 dX13_mark_41 cw_X13_589 (pX13_copy_ok G (dk - 1) (by omega) q6) rfl rfl t0 (zG Z) rfl (by decide) (zF Z (by omega)) (zO Z (by omega) (by decide)) (zM _) Z.2.1 Z.2.1 rfl rfl ?_
    refine J_aload_n Z.1 0 dX13_mark_44 rfl rfl ?_
    refine J_get (v := .int (hI h5 this 21)) Z.1 dX13_mark_45 fl_X13_607 t0 rfl ?_
    cases hf
    exact J_iret Z.1 Z.2.2.2.2.2 dX13_mark_48
  · rw [if_pos c3] at hf
    refine J_aload_n Z.1 0 dX13_mark_18 rfl rfl ?_
    refine J_bipush Z.1 (v := 7) (by decide) dX13_mark_19 ?_
    replace hf := bd2_i hf
    obtain ⟨x9, h7, q8, hf⟩ := hf
    refine J_callV (ci := 11) (as := [.int 7]) (rest := []) (sy := [.int x9]) Z.1 dX13_mark_21 cw_X13_268 (pX13_refuse_ok G (dk - 1) (by omega) q8) rfl rfl t0 (zG Z) rfl (by decide) (zF Z (by omega)) (zO Z (by omega) (by decide)) (zM _) Z.2.1 Z.2.1 rfl rfl ?_
    cases hf
    exact J_iret Z.1 Z.2.2.2.2.2 dX13_mark_24
theorem dX13_back_0 : decode cX13_back 0 = .ok (.aload_n 0, 1) := by decide +kernel
theorem dX13_back_1 : decode cX13_back 1 = .ok (.iconst 0, 1) := by decide +kernel
theorem dX13_back_2 : decode cX13_back 2 = .ok (.putfield 71, 3) := by decide +kernel
theorem dX13_back_5 : decode cX13_back 5 = .ok (.aload_n 0, 1) := by decide +kernel
theorem dX13_back_6 : decode cX13_back 6 = .ok (.iconst 0, 1) := by decide +kernel
theorem dX13_back_7 : decode cX13_back 7 = .ok (.putfield 74, 3) := by decide +kernel
theorem dX13_back_10 : decode cX13_back 10 = .ok (.aload_n 0, 1) := by decide +kernel
theorem dX13_back_11 : decode cX13_back 11 = .ok (.getfield 607, 3) := by decide +kernel
theorem dX13_back_14 : decode cX13_back 14 = .ok (.ifCond .ne 10, 3) := by decide +kernel
theorem dX13_back_17 : decode cX13_back 17 = .ok (.aload_n 0, 1) := by decide +kernel
theorem dX13_back_18 : decode cX13_back 18 = .ok (.bipush 8, 2) := by decide +kernel
theorem dX13_back_20 : decode cX13_back 20 = .ok (.invokevirtual 268, 3) := by decide +kernel
theorem dX13_back_23 : decode cX13_back 23 = .ok (.ireturn, 1) := by decide +kernel
theorem dX13_back_24 : decode cX13_back 24 = .ok (.aload_n 0, 1) := by decide +kernel
theorem dX13_back_25 : decode cX13_back 25 = .ok (.aload_n 0, 1) := by decide +kernel
theorem dX13_back_26 : decode cX13_back 26 = .ok (.getfield 607, 3) := by decide +kernel
theorem dX13_back_29 : decode cX13_back 29 = .ok (.iconst 0, 1) := by decide +kernel
theorem dX13_back_30 : decode cX13_back 30 = .ok (.invokevirtual 589, 3) := by decide +kernel
theorem dX13_back_33 : decode cX13_back 33 = .ok (.aload_n 0, 1) := by decide +kernel
theorem dX13_back_34 : decode cX13_back 34 = .ok (.iconst 0, 1) := by decide +kernel
theorem dX13_back_35 : decode cX13_back 35 = .ok (.putfield 271, 3) := by decide +kernel
theorem dX13_back_38 : decode cX13_back 38 = .ok (.aload_n 0, 1) := by decide +kernel
theorem dX13_back_39 : decode cX13_back 39 = .ok (.dup, 1) := by decide +kernel
theorem dX13_back_40 : decode cX13_back 40 = .ok (.getfield 607, 3) := by decide +kernel
theorem dX13_back_43 : decode cX13_back 43 = .ok (.iconst 1, 1) := by decide +kernel
theorem dX13_back_44 : decode cX13_back 44 = .ok (.isub, 1) := by decide +kernel
theorem dX13_back_45 : decode cX13_back 45 = .ok (.putfield 607, 3) := by decide +kernel
theorem dX13_back_48 : decode cX13_back 48 = .ok (.aload_n 0, 1) := by decide +kernel
theorem dX13_back_49 : decode cX13_back 49 = .ok (.getfield 607, 3) := by decide +kernel
theorem dX13_back_52 : decode cX13_back 52 = .ok (.ireturn, 1) := by decide +kernel
def pX13_back (g : MT) (h : CT) (this : Nat) : Option ((Int32) × CT) := tg g this 12 (lt (sI h this 1 0) fun h1 => (lt (sI h1 this 0 0) fun h2 => (if (hI h2 this 21) = 0 then bd2 (pX13_refuse g h2 this 8) fun x10 h8 => (some (x10, h8)) else bd (pX13_copy g h2 this (hI h2 this 21) 0) fun h4 => (lt (sI h4 this 22 0) fun h6 => (lt (sI h6 this 21 ((hI h6 this 21) - 1)) fun h7 => (some ((hI h7 this 21), h7)))))))
set_option maxRecDepth 10000 in
set_option maxHeartbeats 4000000 in
theorem pX13_back_ok (G : Gx) (dk : Nat) (hK : 1 ≤ dk) {g : MT} {h h0 : CT} {this : Nat} {r0 : Int32} (hf : pX13_back g h this = some (r0, h0)) : Ctr G dk yX13_back cX13_back 1 (some .int) [va_rf (some this)] g h (some (.int r0)) g h0 := by
  refine Ctr.ofZ (lv := [(0, va_rf (some this))]) (by decide +kernel) (by simp [cat_i, cat_l, cat_d, cat_rf]) rfl fun X Z => ?_
  unfold pX13_back at hf
  replace hf := tg_i hf
  obtain ⟨t0, hf⟩ := hf
  refine J_aload_n Z.1 0 dX13_back_0 rfl rfl ?_
  refine J_iconst Z.1 (v := 0) (by decide) dX13_back_1 ?_
  refine J_putI Z.1 dX13_back_2 fl_X13_71 (fun q => by cases q) t0 rfl rfl (congrArg Value.int (hI_s _ _ _ _)) ?_
  refine J_th (fun h1 eh1 => ?_)
  replace hf := lt_i hf h1 eh1
  refine J_aload_n Z.1 0 dX13_back_5 rfl rfl ?_
  refine J_iconst Z.1 (v := 0) (by decide) dX13_back_6 ?_
  refine J_putI Z.1 dX13_back_7 fl_X13_74 (fun q => by cases q) t0 rfl rfl (congrArg Value.int (hI_s _ _ _ _)) ?_
  refine J_th (fun h2 eh2 => ?_)
  replace hf := lt_i hf h2 eh2
  refine J_aload_n Z.1 0 dX13_back_10 rfl rfl ?_
  refine J_get (v := .int (hI h2 this 21)) Z.1 dX13_back_11 fl_X13_607 t0 rfl ?_
  refine J_if_ne Z.1 24 dX13_back_14 (by decide) (fun c3 => ?_) (fun c3 => ?_)
  · rw [if_neg c3] at hf
    refine J_aload_n Z.1 0 dX13_back_24 rfl rfl ?_
    refine J_aload_n Z.1 0 dX13_back_25 rfl rfl ?_
    refine J_get (v := .int (hI h2 this 21)) Z.1 dX13_back_26 fl_X13_607 t0 rfl ?_
    refine J_iconst Z.1 (v := 0) (by decide) dX13_back_29 ?_
    replace hf := bd_i hf
    obtain ⟨h4, q5, hf⟩ := hf
    refine J_callV (ci := 11) (as := [.int (hI h2 this 21), .int 0]) (rest := []) (sy := []) Z.1 dX13_back_30 cw_X13_589 (pX13_copy_ok G (dk - 1) (by omega) q5) rfl rfl t0 (zG Z) rfl (by decide) (zF Z (by omega)) (zO Z (by omega) (by decide)) (zM _) Z.2.1 Z.2.1 rfl rfl ?_
    refine J_aload_n Z.1 0 dX13_back_33 rfl rfl ?_
    refine J_iconst Z.1 (v := 0) (by decide) dX13_back_34 ?_
    refine J_putI Z.1 dX13_back_35 fl_X13_271 (fun q => by cases q) t0 (z_n (Or.inl rfl)) (z_f (Or.inl rfl)) (congrArg Value.int (hI_s _ _ _ _)) ?_
    refine J_th (fun h6 eh6 => ?_)
    replace hf := lt_i hf h6 eh6
    refine J_aload_n Z.1 0 dX13_back_38 rfl rfl ?_
    refine J_dup Z.1 dX13_back_39 rfl ?_
    refine J_get (v := .int (hI h6 this 21)) Z.1 dX13_back_40 fl_X13_607 t0 rfl ?_
    refine J_iconst Z.1 (v := 1) (by decide) dX13_back_43 ?_
    refine J_isub Z.1 dX13_back_44 ?_
    refine J_putI Z.1 dX13_back_45 fl_X13_607 (fun q => by cases q) t0 rfl rfl (congrArg Value.int (hI_s _ _ _ _)) ?_
    refine J_th (fun h7 eh7 => ?_)
    replace hf := lt_i hf h7 eh7
    refine J_aload_n Z.1 0 dX13_back_48 rfl rfl ?_
    refine J_get (v := .int (hI h7 this 21)) Z.1 dX13_back_49 fl_X13_607 t0 rfl ?_
    cases hf
    exact J_iret Z.1 Z.2.2.2.2.2 dX13_back_52
  · rw [if_pos c3] at hf
    refine J_aload_n Z.1 0 dX13_back_17 rfl rfl ?_
    refine J_bipush Z.1 (v := 8) (by decide) dX13_back_18 ?_
    replace hf := bd2_i hf
    obtain ⟨x10, h8, q9, hf⟩ := hf
    refine J_callV (ci := 11) (as := [.int 8]) (rest := []) (sy := [.int x10]) Z.1 dX13_back_20 cw_X13_268 (pX13_refuse_ok G (dk - 1) (by omega) q9) rfl rfl t0 (zG Z) rfl (by decide) (zF Z (by omega)) (zO Z (by omega) (by decide)) (zM _) Z.2.1 Z.2.1 rfl rfl ?_
    cases hf
    exact J_iret Z.1 Z.2.2.2.2.2 dX13_back_23
