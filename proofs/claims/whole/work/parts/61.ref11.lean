/-! written by wip/whole/gen.py out of the printed bytecode -/
theorem dX13_runs_0 : decode cX13_runs 0 = .ok (.iconst 0, 1) := by decide +kernel
theorem dX13_runs_1 : decode cX13_runs 1 = .ok (.istore_n 1, 1) := by decide +kernel
theorem dX13_runs_2 : decode cX13_runs 2 = .ok (.iload_n 1, 1) := by decide +kernel
theorem dX13_runs_3 : decode cX13_runs 3 = .ok (.bipush 96, 2) := by decide +kernel
theorem dX13_runs_5 : decode cX13_runs 5 = .ok (.if_icmp .ge 23, 3) := by decide +kernel
theorem dX13_runs_8 : decode cX13_runs 8 = .ok (.aload_n 0, 1) := by decide +kernel
theorem dX13_runs_9 : decode cX13_runs 9 = .ok (.getfield 38, 3) := by decide +kernel
theorem dX13_runs_12 : decode cX13_runs 12 = .ok (.iload_n 1, 1) := by decide +kernel
theorem dX13_runs_13 : decode cX13_runs 13 = .ok (.iconst 0, 1) := by decide +kernel
theorem dX13_runs_14 : decode cX13_runs 14 = .ok (.iastore, 1) := by decide +kernel
theorem dX13_runs_15 : decode cX13_runs 15 = .ok (.aload_n 0, 1) := by decide +kernel
theorem dX13_runs_16 : decode cX13_runs 16 = .ok (.getfield 41, 3) := by decide +kernel
theorem dX13_runs_19 : decode cX13_runs 19 = .ok (.iload_n 1, 1) := by decide +kernel
theorem dX13_runs_20 : decode cX13_runs 20 = .ok (.iconst 0, 1) := by decide +kernel
theorem dX13_runs_21 : decode cX13_runs 21 = .ok (.iastore, 1) := by decide +kernel
theorem dX13_runs_22 : decode cX13_runs 22 = .ok (.iinc 1 1, 3) := by decide +kernel
theorem dX13_runs_25 : decode cX13_runs 25 = .ok (.goto (-23), 3) := by decide +kernel
theorem dX13_runs_28 : decode cX13_runs 28 = .ok (.iconst 0, 1) := by decide +kernel
theorem dX13_runs_29 : decode cX13_runs 29 = .ok (.istore_n 1, 1) := by decide +kernel
theorem dX13_runs_30 : decode cX13_runs 30 = .ok (.iload_n 1, 1) := by decide +kernel
theorem dX13_runs_31 : decode cX13_runs 31 = .ok (.iconst 4, 1) := by decide +kernel
theorem dX13_runs_32 : decode cX13_runs 32 = .ok (.if_icmp .ge 16, 3) := by decide +kernel
theorem dX13_runs_35 : decode cX13_runs 35 = .ok (.aload_n 0, 1) := by decide +kernel
theorem dX13_runs_36 : decode cX13_runs 36 = .ok (.getfield 44, 3) := by decide +kernel
theorem dX13_runs_39 : decode cX13_runs 39 = .ok (.iload_n 1, 1) := by decide +kernel
theorem dX13_runs_40 : decode cX13_runs 40 = .ok (.iconst 0, 1) := by decide +kernel
theorem dX13_runs_41 : decode cX13_runs 41 = .ok (.iastore, 1) := by decide +kernel
theorem dX13_runs_42 : decode cX13_runs 42 = .ok (.iinc 1 1, 3) := by decide +kernel
theorem dX13_runs_45 : decode cX13_runs 45 = .ok (.goto (-15), 3) := by decide +kernel
theorem dX13_runs_48 : decode cX13_runs 48 = .ok (.iconst 0, 1) := by decide +kernel
theorem dX13_runs_49 : decode cX13_runs 49 = .ok (.istore_n 1, 1) := by decide +kernel
theorem dX13_runs_50 : decode cX13_runs 50 = .ok (.iload_n 1, 1) := by decide +kernel
theorem dX13_runs_51 : decode cX13_runs 51 = .ok (.bipush 16, 2) := by decide +kernel
theorem dX13_runs_53 : decode cX13_runs 53 = .ok (.if_icmp .ge 17, 3) := by decide +kernel
theorem dX13_runs_56 : decode cX13_runs 56 = .ok (.aload_n 0, 1) := by decide +kernel
theorem dX13_runs_57 : decode cX13_runs 57 = .ok (.getfield 47, 3) := by decide +kernel
theorem dX13_runs_60 : decode cX13_runs 60 = .ok (.iload_n 1, 1) := by decide +kernel
theorem dX13_runs_61 : decode cX13_runs 61 = .ok (.bipush (-12), 2) := by decide +kernel
theorem dX13_runs_63 : decode cX13_runs 63 = .ok (.iastore, 1) := by decide +kernel
theorem dX13_runs_64 : decode cX13_runs 64 = .ok (.iinc 1 1, 3) := by decide +kernel
theorem dX13_runs_67 : decode cX13_runs 67 = .ok (.goto (-17), 3) := by decide +kernel
theorem dX13_runs_70 : decode cX13_runs 70 = .ok (.iconst 0, 1) := by decide +kernel
theorem dX13_runs_71 : decode cX13_runs 71 = .ok (.istore_n 1, 1) := by decide +kernel
theorem dX13_runs_72 : decode cX13_runs 72 = .ok (.iload_n 1, 1) := by decide +kernel
theorem dX13_runs_73 : decode cX13_runs 73 = .ok (.bipush 30, 2) := by decide +kernel
theorem dX13_runs_75 : decode cX13_runs 75 = .ok (.if_icmp .ge 16, 3) := by decide +kernel
theorem dX13_runs_78 : decode cX13_runs 78 = .ok (.aload_n 0, 1) := by decide +kernel
theorem dX13_runs_79 : decode cX13_runs 79 = .ok (.getfield 50, 3) := by decide +kernel
theorem dX13_runs_82 : decode cX13_runs 82 = .ok (.iload_n 1, 1) := by decide +kernel
theorem dX13_runs_83 : decode cX13_runs 83 = .ok (.iconst (-1), 1) := by decide +kernel
theorem dX13_runs_84 : decode cX13_runs 84 = .ok (.iastore, 1) := by decide +kernel
theorem dX13_runs_85 : decode cX13_runs 85 = .ok (.iinc 1 1, 3) := by decide +kernel
theorem dX13_runs_88 : decode cX13_runs 88 = .ok (.goto (-16), 3) := by decide +kernel
theorem dX13_runs_91 : decode cX13_runs 91 = .ok (.aload_n 0, 1) := by decide +kernel
theorem dX13_runs_92 : decode cX13_runs 92 = .ok (.iconst 0, 1) := by decide +kernel
theorem dX13_runs_93 : decode cX13_runs 93 = .ok (.putfield 404, 3) := by decide +kernel
theorem dX13_runs_96 : decode cX13_runs 96 = .ok (.aload_n 0, 1) := by decide +kernel
theorem dX13_runs_97 : decode cX13_runs 97 = .ok (.iconst 0, 1) := by decide +kernel
theorem dX13_runs_98 : decode cX13_runs 98 = .ok (.putfield 407, 3) := by decide +kernel
theorem dX13_runs_101 : decode cX13_runs 101 = .ok (.aload_n 0, 1) := by decide +kernel
theorem dX13_runs_102 : decode cX13_runs 102 = .ok (.iconst 0, 1) := by decide +kernel
theorem dX13_runs_103 : decode cX13_runs 103 = .ok (.putfield 401, 3) := by decide +kernel
theorem dX13_runs_106 : decode cX13_runs 106 = .ok (.aload_n 0, 1) := by decide +kernel
theorem dX13_runs_107 : decode cX13_runs 107 = .ok (.iconst (-1), 1) := by decide +kernel
theorem dX13_runs_108 : decode cX13_runs 108 = .ok (.putfield 398, 3) := by decide +kernel
theorem dX13_runs_111 : decode cX13_runs 111 = .ok (.aload_n 0, 1) := by decide +kernel
theorem dX13_runs_112 : decode cX13_runs 112 = .ok (.iconst 0, 1) := by decide +kernel
theorem dX13_runs_113 : decode cX13_runs 113 = .ok (.putfield 418, 3) := by decide +kernel
theorem dX13_runs_116 : decode cX13_runs 116 = .ok (.aload_n 0, 1) := by decide +kernel
theorem dX13_runs_117 : decode cX13_runs 117 = .ok (.iconst 0, 1) := by decide +kernel
theorem dX13_runs_118 : decode cX13_runs 118 = .ok (.putfield 366, 3) := by decide +kernel
theorem dX13_runs_121 : decode cX13_runs 121 = .ok (.aload_n 0, 1) := by decide +kernel
theorem dX13_runs_122 : decode cX13_runs 122 = .ok (.iconst 0, 1) := by decide +kernel
theorem dX13_runs_123 : decode cX13_runs 123 = .ok (.putfield 441, 3) := by decide +kernel
theorem dX13_runs_126 : decode cX13_runs 126 = .ok (.aload_n 0, 1) := by decide +kernel
theorem dX13_runs_127 : decode cX13_runs 127 = .ok (.iconst 0, 1) := by decide +kernel
theorem dX13_runs_128 : decode cX13_runs 128 = .ok (.putfield 521, 3) := by decide +kernel
theorem dX13_runs_131 : decode cX13_runs 131 = .ok (.aload_n 0, 1) := by decide +kernel
theorem dX13_runs_132 : decode cX13_runs 132 = .ok (.iconst 0, 1) := by decide +kernel
theorem dX13_runs_133 : decode cX13_runs 133 = .ok (.putfield 369, 3) := by decide +kernel
theorem dX13_runs_136 : decode cX13_runs 136 = .ok (.aload_n 0, 1) := by decide +kernel
theorem dX13_runs_137 : decode cX13_runs 137 = .ok (.iconst 0, 1) := by decide +kernel
theorem dX13_runs_138 : decode cX13_runs 138 = .ok (.putfield 378, 3) := by decide +kernel
theorem dX13_runs_141 : decode cX13_runs 141 = .ok (.aload_n 0, 1) := by decide +kernel
theorem dX13_runs_142 : decode cX13_runs 142 = .ok (.iconst 0, 1) := by decide +kernel
theorem dX13_runs_143 : decode cX13_runs 143 = .ok (.aload_n 0, 1) := by decide +kernel
theorem dX13_runs_144 : decode cX13_runs 144 = .ok (.getfield 31, 3) := by decide +kernel
theorem dX13_runs_147 : decode cX13_runs 147 = .ok (.iconst 5, 1) := by decide +kernel
theorem dX13_runs_148 : decode cX13_runs 148 = .ok (.iaload, 1) := by decide +kernel
theorem dX13_runs_149 : decode cX13_runs 149 = .ok (.invokevirtual 529, 3) := by decide +kernel
theorem dX13_runs_152 : decode cX13_runs 152 = .ok (.return_, 1) := by decide +kernel
def pX13_runs_b72 (g : MT) (this : Nat) (k72 : Int32 → CT → Option CT) (l1 : Int32) (h : CT) : Option CT := if 30 ≤ l1 then lt (sI h this 29 0) fun h2 => (lt (sI h2 this 30 0) fun h3 => (lt (sI h3 this 31 0) fun h4 => (lt (sI h4 this 32 (-1)) fun h5 => (lt (sI h5 this 33 0) fun h6 => (lt (sI h6 this 34 0) fun h7 => (lt (sI h7 this 35 0) fun h8 => (lt (sI h8 this 36 0) fun h9 => (lt (sI h9 this 37 0) fun h10 => (lt (sI h10 this 40 0) fun h11 => (lt (hR h11 this 19) fun r12 => (nn r12 fun a12 => (tg g a12 20 (ix (gL g a12) 5 (bd (pX13_doAll g h11 this 0 (hI h11 a12 (Int32.toNatClampNeg 5))) fun h15 => (some h15))))))))))))))) else lt (hR h this 27) fun r17 => (nn r17 fun a17 => (tg g a17 20 (ix (gL g a17) l1 (lt (sI h a17 (Int32.toNatClampNeg l1) (-1)) fun h20 => (lt (l1 + 1) fun x21 => (k72 x21 h20))))))
set_option maxRecDepth 10000 in
set_option maxHeartbeats 4000000 in
theorem pX13_runs_b72_ok {X : Cx} {G : Gx} {dk : Nat} {g : MT} {h0 : CT} {this : Nat} {k72 : Int32 → CT → Option CT} (Z : Zx X G cX13_runs RX13 2 dk none none g h0) (hK : 127 ≤ dk) (t0 : gT g this = 12) (hk72 : ∀ (l1 : Int32) (h : CT), k72 l1 h = some h0 → J X g h 72 [(0, va_rf (some this)), (1, .int l1)] []) (l1 : Int32) (h : CT) (hf : pX13_runs_b72 g this k72 l1 h = some h0) : J X g h 72 [(0, va_rf (some this)), (1, .int l1)] [] := by
  unfold pX13_runs_b72 at hf
  refine J_iload_n Z.1 1 dX13_runs_72 rfl rfl ?_
  refine J_bipush Z.1 (v := 30) (by decide) dX13_runs_73 ?_
  refine J_icmp_ge Z.1 91 dX13_runs_75 (by decide) (fun c1 => ?_) (fun c1 => ?_)
  · rw [if_pos c1] at hf
    refine J_aload_n Z.1 0 dX13_runs_91 rfl rfl ?_
    refine J_iconst Z.1 (v := 0) (by decide) dX13_runs_92 ?_
    refine J_putI Z.1 dX13_runs_93 fl_X13_404 (fun q => by cases q) t0 rfl rfl (congrArg Value.int (hI_s _ _ _ _)) ?_
    refine J_th (fun h2 eh2 => ?_)
    replace hf := lt_i hf h2 eh2
    refine J_aload_n Z.1 0 dX13_runs_96 rfl rfl ?_
    refine J_iconst Z.1 (v := 0) (by decide) dX13_runs_97 ?_
    refine J_putI Z.1 dX13_runs_98 fl_X13_407 (fun q => by cases q) t0 rfl rfl (congrArg Value.int (hI_s _ _ _ _)) ?_
    refine J_th (fun h3 eh3 => ?_)
    replace hf := lt_i hf h3 eh3
    refine J_aload_n Z.1 0 dX13_runs_101 rfl rfl ?_
    refine J_iconst Z.1 (v := 0) (by decide) dX13_runs_102 ?_
    refine J_putI Z.1 dX13_runs_103 fl_X13_401 (fun q => by cases q) t0 rfl rfl (congrArg Value.int (hI_s _ _ _ _)) ?_
    refine J_th (fun h4 eh4 => ?_)
    replace hf := lt_i hf h4 eh4
    refine J_aload_n Z.1 0 dX13_runs_106 rfl rfl ?_
    refine J_iconst Z.1 (v := (-1)) (by decide) dX13_runs_107 ?_
    refine J_putI Z.1 dX13_runs_108 fl_X13_398 (fun q => by cases q) t0 rfl rfl (congrArg Value.int (hI_s _ _ _ _)) ?_
    refine J_th (fun h5 eh5 => ?_)
    replace hf := lt_i hf h5 eh5
    refine J_aload_n Z.1 0 dX13_runs_111 rfl rfl ?_
    refine J_iconst Z.1 (v := 0) (by decide) dX13_runs_112 ?_
    refine J_putI Z.1 dX13_runs_113 fl_X13_418 (fun q => by cases q) t0 rfl rfl (congrArg Value.int (hI_s _ _ _ _)) ?_
    refine J_th (fun h6 eh6 => ?_)
    replace hf := lt_i hf h6 eh6
    refine J_aload_n Z.1 0 dX13_runs_116 rfl rfl ?_
    refine J_iconst Z.1 (v := 0) (by decide) dX13_runs_117 ?_
    refine J_putI Z.1 dX13_runs_118 fl_X13_366 (fun q => by cases q) t0 rfl rfl (congrArg Value.int (hI_s _ _ _ _)) ?_
    refine J_th (fun h7 eh7 => ?_)
    replace hf := lt_i hf h7 eh7
    refine J_aload_n Z.1 0 dX13_runs_121 rfl rfl ?_
    refine J_iconst Z.1 (v := 0) (by decide) dX13_runs_122 ?_
    refine J_putI Z.1 dX13_runs_123 fl_X13_441 (fun q => by cases q) t0 rfl rfl (congrArg Value.int (hI_s _ _ _ _)) ?_
    refine J_th (fun h8 eh8 => ?_)
    replace hf := lt_i hf h8 eh8
    refine J_aload_n Z.1 0 dX13_runs_126 rfl rfl ?_
    refine J_iconst Z.1 (v := 0) (by decide) dX13_runs_127 ?_
    refine J_putI Z.1 dX13_runs_128 fl_X13_521 (fun q => by cases q) t0 rfl rfl (congrArg Value.int (hI_s _ _ _ _)) ?_
    refine J_th (fun h9 eh9 => ?_)
    replace hf := lt_i hf h9 eh9
    refine J_aload_n Z.1 0 dX13_runs_131 rfl rfl ?_
    refine J_iconst Z.1 (v := 0) (by decide) dX13_runs_132 ?_
    refine J_putI Z.1 dX13_runs_133 fl_X13_369 (fun q => by cases q) t0 rfl rfl (congrArg Value.int (hI_s _ _ _ _)) ?_
    refine J_th (fun h10 eh10 => ?_)
    replace hf := lt_i hf h10 eh10
    refine J_aload_n Z.1 0 dX13_runs_136 rfl rfl ?_
    refine J_iconst Z.1 (v := 0) (by decide) dX13_runs_137 ?_
    refine J_putI Z.1 dX13_runs_138 fl_X13_378 (fun q => by cases q) t0 (z_n (Or.inl rfl)) (z_f (Or.inl rfl)) (congrArg Value.int (hI_s _ _ _ _)) ?_
    refine J_th (fun h11 eh11 => ?_)
    replace hf := lt_i hf h11 eh11
    refine J_aload_n Z.1 0 dX13_runs_141 rfl rfl ?_
    refine J_iconst Z.1 (v := 0) (by decide) dX13_runs_142 ?_
    refine J_aload_n Z.1 0 dX13_runs_143 rfl rfl ?_
    refine J_get (v := va_rf (hR h11 this 19)) Z.1 dX13_runs_144 fl_X13_31 t0 rfl ?_
    refine J_tr (fun r12 er12 => ?_)
    replace hf := lt_i hf r12 er12
    refine J_iconst Z.1 (v := 5) (by decide) dX13_runs_147 ?_
    replace hf := nn_i hf
    obtain ⟨a12, rfl, hf⟩ := hf
    replace hf := tg_i hf
    obtain ⟨t13, hf⟩ := hf
    replace hf := ix_i hf
    obtain ⟨i14, hf⟩ := hf
    refine J_iaload Z.1 dX13_runs_148 t13 i14 ?_
    replace hf := bd_i hf
    obtain ⟨h15, q16, hf⟩ := hf
    refine J_callV (ci := 11) (as := [.int 0, .int (hI h11 a12 (Int32.toNatClampNeg 5))]) (rest := []) (sy := []) Z.1 dX13_runs_149 cw_X13_529 (pX13_doAll_ok G (dk - 1) (by omega) q16) rfl rfl t0 (zG Z) rfl (by decide) (zF Z (by omega)) (zO Z (by omega) (by decide)) (zM _) Z.2.1 Z.2.1 rfl rfl ?_
    cases hf
    exact J_vret Z.1 Z.2.2.2.2.2 dX13_runs_152
  · rw [if_neg c1] at hf
    refine J_aload_n Z.1 0 dX13_runs_78 rfl rfl ?_
    refine J_get (v := va_rf (hR h this 27)) Z.1 dX13_runs_79 fl_X13_50 t0 rfl ?_
    refine J_tr (fun r17 er17 => ?_)
    replace hf := lt_i hf r17 er17
    refine J_iload_n Z.1 1 dX13_runs_82 rfl rfl ?_
    refine J_iconst Z.1 (v := (-1)) (by decide) dX13_runs_83 ?_
    replace hf := nn_i hf
    obtain ⟨a17, rfl, hf⟩ := hf
    replace hf := tg_i hf
    obtain ⟨t18, hf⟩ := hf
    replace hf := ix_i hf
    obtain ⟨i19, hf⟩ := hf
    refine J_iastore Z.1 dX13_runs_84 t18 i19 ?_
    refine J_th (fun h20 eh20 => ?_)
    replace hf := lt_i hf h20 eh20
    refine J_iinc Z.1 (v := 1) (lv2 := [(1, .int (l1 + 1)), (0, va_rf (some this))]) 1 dX13_runs_85 rfl (by decide) (zL Z (by decide)) rfl ?_
    obtain ⟨x21, ex21⟩ : ∃ z, z = (l1 + 1) := ⟨_, rfl⟩
    replace hf := lt_i hf x21 ex21
    rw [← ex21]
    refine J_goto Z.1 72 dX13_runs_88 (by decide) ?_
    refine J_lv [1, 0] rfl ?_
    exact hk72 _ _ hf
def pX13_runs_l72 (g : MT) (this : Nat) : Nat → Int32 → CT → Option CT
  | 0, _, _ => none
  | n + 1, l1, h => pX13_runs_b72 g this (pX13_runs_l72 g this n) l1 h
theorem pX13_runs_l72_ok {X : Cx} {G : Gx} {dk : Nat} {g : MT} {h0 : CT} {this : Nat} (Z : Zx X G cX13_runs RX13 2 dk none none g h0) (hK : 127 ≤ dk) (t0 : gT g this = 12) : ∀ (n : Nat) (l1 : Int32) (h : CT), pX13_runs_l72 g this n l1 h = some h0 → J X g h 72 [(0, va_rf (some this)), (1, .int l1)] [] := by
  intro n
  induction n with
  | zero => intro l1 h hf; cases hf
  | succ n ih => intro l1 h hf; exact pX13_runs_b72_ok Z hK t0 ih l1 h hf
def pX13_runs_b50 (g : MT) (this : Nat) (k50 : Int32 → CT → Option CT) (l1 : Int32) (h : CT) : Option CT := if 16 ≤ l1 then pX13_runs_l72 g this  FUEL 0 h else lt (hR h this 26) fun r2 => (nn r2 fun a2 => (tg g a2 20 (ix (gL g a2) l1 (lt (sI h a2 (Int32.toNatClampNeg l1) (-12)) fun h5 => (lt (l1 + 1) fun x6 => (k50 x6 h5))))))
set_option maxRecDepth 10000 in
set_option maxHeartbeats 4000000 in
theorem pX13_runs_b50_ok {X : Cx} {G : Gx} {dk : Nat} {g : MT} {h0 : CT} {this : Nat} {k50 : Int32 → CT → Option CT} (Z : Zx X G cX13_runs RX13 2 dk none none g h0) (hK : 127 ≤ dk) (t0 : gT g this = 12) (hk50 : ∀ (l1 : Int32) (h : CT), k50 l1 h = some h0 → J X g h 50 [(0, va_rf (some this)), (1, .int l1)] []) (l1 : Int32) (h : CT) (hf : pX13_runs_b50 g this k50 l1 h = some h0) : J X g h 50 [(0, va_rf (some this)), (1, .int l1)] [] := by
  unfold pX13_runs_b50 at hf
  refine J_iload_n Z.1 1 dX13_runs_50 rfl rfl ?_
  refine J_bipush Z.1 (v := 16) (by decide) dX13_runs_51 ?_
  refine J_icmp_ge Z.1 70 dX13_runs_53 (by decide) (fun c1 => ?_) (fun c1 => ?_)
  · rw [if_pos c1] at hf
    refine J_iconst Z.1 (v := 0) (by decide) dX13_runs_70 ?_
    refine J_istore_n Z.1 (lv2 := [(1, .int 0), (0, va_rf (some this))]) dX13_runs_71 rfl (zL Z (by decide)) rfl ?_
    refine J_lv [1, 0] rfl ?_
    exact pX13_runs_l72_ok Z hK t0  FUEL _ _ hf
  · rw [if_neg c1] at hf
    refine J_aload_n Z.1 0 dX13_runs_56 rfl rfl ?_
    refine J_get (v := va_rf (hR h this 26)) Z.1 dX13_runs_57 fl_X13_47 t0 rfl ?_
    refine J_tr (fun r2 er2 => ?_)
    replace hf := lt_i hf r2 er2
    refine J_iload_n Z.1 1 dX13_runs_60 rfl rfl ?_
    refine J_bipush Z.1 (v := (-12)) (by decide) dX13_runs_61 ?_
    replace hf := nn_i hf
    obtain ⟨a2, rfl, hf⟩ := hf
    replace hf := tg_i hf
    obtain ⟨t3, hf⟩ := hf
    replace hf := ix_i hf
    obtain ⟨i4, hf⟩ := hf
    refine J_iastore Z.1 dX13_runs_63 t3 i4 ?_
    refine J_th (fun h5 eh5 => ?_)
    replace hf := lt_i hf h5 eh5
    refine J_iinc Z.1 (v := 1) (lv2 := [(1, .int (l1 + 1)), (0, va_rf (some this))]) 1 dX13_runs_64 rfl (by decide) (zL Z (by decide)) rfl ?_
    obtain ⟨x6, ex6⟩ : ∃ z, z = (l1 + 1) := ⟨_, rfl⟩
    replace hf := lt_i hf x6 ex6
    rw [← ex6]
    refine J_goto Z.1 50 dX13_runs_67 (by decide) ?_
    refine J_lv [1, 0] rfl ?_
    exact hk50 _ _ hf
def pX13_runs_l50 (g : MT) (this : Nat) : Nat → Int32 → CT → Option CT
  | 0, _, _ => none
  | n + 1, l1, h => pX13_runs_b50 g this (pX13_runs_l50 g this n) l1 h
theorem pX13_runs_l50_ok {X : Cx} {G : Gx} {dk : Nat} {g : MT} {h0 : CT} {this : Nat} (Z : Zx X G cX13_runs RX13 2 dk none none g h0) (hK : 127 ≤ dk) (t0 : gT g this = 12) : ∀ (n : Nat) (l1 : Int32) (h : CT), pX13_runs_l50 g this n l1 h = some h0 → J X g h 50 [(0, va_rf (some this)), (1, .int l1)] [] := by
  intro n
  induction n with
  | zero => intro l1 h hf; cases hf
  | succ n ih => intro l1 h hf; exact pX13_runs_b50_ok Z hK t0 ih l1 h hf
def pX13_runs_b30 (g : MT) (this : Nat) (k30 : Int32 → CT → Option CT) (l1 : Int32) (h : CT) : Option CT := if 4 ≤ l1 then pX13_runs_l50 g this  FUEL 0 h else lt (hR h this 25) fun r2 => (nn r2 fun a2 => (tg g a2 20 (ix (gL g a2) l1 (lt (sI h a2 (Int32.toNatClampNeg l1) 0) fun h5 => (lt (l1 + 1) fun x6 => (k30 x6 h5))))))
set_option maxRecDepth 10000 in
set_option maxHeartbeats 4000000 in
theorem pX13_runs_b30_ok {X : Cx} {G : Gx} {dk : Nat} {g : MT} {h0 : CT} {this : Nat} {k30 : Int32 → CT → Option CT} (Z : Zx X G cX13_runs RX13 2 dk none none g h0) (hK : 127 ≤ dk) (t0 : gT g this = 12) (hk30 : ∀ (l1 : Int32) (h : CT), k30 l1 h = some h0 → J X g h 30 [(0, va_rf (some this)), (1, .int l1)] []) (l1 : Int32) (h : CT) (hf : pX13_runs_b30 g this k30 l1 h = some h0) : J X g h 30 [(0, va_rf (some this)), (1, .int l1)] [] := by
  unfold pX13_runs_b30 at hf
  refine J_iload_n Z.1 1 dX13_runs_30 rfl rfl ?_
  refine J_iconst Z.1 (v := 4) (by decide) dX13_runs_31 ?_
  refine J_icmp_ge Z.1 48 dX13_runs_32 (by decide) (fun c1 => ?_) (fun c1 => ?_)
  · rw [if_pos c1] at hf
    refine J_iconst Z.1 (v := 0) (by decide) dX13_runs_48 ?_
    refine J_istore_n Z.1 (lv2 := [(1, .int 0), (0, va_rf (some this))]) dX13_runs_49 rfl (zL Z (by decide)) rfl ?_
    refine J_lv [1, 0] rfl ?_
    exact pX13_runs_l50_ok Z hK t0  FUEL _ _ hf
  · rw [if_neg c1] at hf
    refine J_aload_n Z.1 0 dX13_runs_35 rfl rfl ?_
    refine J_get (v := va_rf (hR h this 25)) Z.1 dX13_runs_36 fl_X13_44 t0 rfl ?_
    refine J_tr (fun r2 er2 => ?_)
    replace hf := lt_i hf r2 er2
    refine J_iload_n Z.1 1 dX13_runs_39 rfl rfl ?_
    refine J_iconst Z.1 (v := 0) (by decide) dX13_runs_40 ?_
    replace hf := nn_i hf
    obtain ⟨a2, rfl, hf⟩ := hf
    replace hf := tg_i hf
    obtain ⟨t3, hf⟩ := hf
    replace hf := ix_i hf
    obtain ⟨i4, hf⟩ := hf
    refine J_iastore Z.1 dX13_runs_41 t3 i4 ?_
    refine J_th (fun h5 eh5 => ?_)
    replace hf := lt_i hf h5 eh5
    refine J_iinc Z.1 (v := 1) (lv2 := [(1, .int (l1 + 1)), (0, va_rf (some this))]) 1 dX13_runs_42 rfl (by decide) (zL Z (by decide)) rfl ?_
    obtain ⟨x6, ex6⟩ : ∃ z, z = (l1 + 1) := ⟨_, rfl⟩
    replace hf := lt_i hf x6 ex6
    rw [← ex6]
    refine J_goto Z.1 30 dX13_runs_45 (by decide) ?_
    refine J_lv [1, 0] rfl ?_
    exact hk30 _ _ hf
def pX13_runs_l30 (g : MT) (this : Nat) : Nat → Int32 → CT → Option CT
  | 0, _, _ => none
  | n + 1, l1, h => pX13_runs_b30 g this (pX13_runs_l30 g this n) l1 h
theorem pX13_runs_l30_ok {X : Cx} {G : Gx} {dk : Nat} {g : MT} {h0 : CT} {this : Nat} (Z : Zx X G cX13_runs RX13 2 dk none none g h0) (hK : 127 ≤ dk) (t0 : gT g this = 12) : ∀ (n : Nat) (l1 : Int32) (h : CT), pX13_runs_l30 g this n l1 h = some h0 → J X g h 30 [(0, va_rf (some this)), (1, .int l1)] [] := by
  intro n
  induction n with
  | zero => intro l1 h hf; cases hf
  | succ n ih => intro l1 h hf; exact pX13_runs_b30_ok Z hK t0 ih l1 h hf
def pX13_runs_b2 (g : MT) (this : Nat) (k2 : Int32 → CT → Option CT) (l1 : Int32) (h : CT) : Option CT := if 96 ≤ l1 then pX13_runs_l30 g this  FUEL 0 h else lt (hR h this 23) fun r2 => (nn r2 fun a2 => (tg g a2 20 (ix (gL g a2) l1 (lt (sI h a2 (Int32.toNatClampNeg l1) 0) fun h5 => (lt (hR h5 this 24) fun r6 => (nn r6 fun a6 => (tg g a6 20 (ix (gL g a6) l1 (lt (sI h5 a6 (Int32.toNatClampNeg l1) 0) fun h9 => (lt (l1 + 1) fun x10 => (k2 x10 h9)))))))))))
set_option maxRecDepth 10000 in
set_option maxHeartbeats 4000000 in
theorem pX13_runs_b2_ok {X : Cx} {G : Gx} {dk : Nat} {g : MT} {h0 : CT} {this : Nat} {k2 : Int32 → CT → Option CT} (Z : Zx X G cX13_runs RX13 2 dk none none g h0) (hK : 127 ≤ dk) (t0 : gT g this = 12) (hk2 : ∀ (l1 : Int32) (h : CT), k2 l1 h = some h0 → J X g h 2 [(0, va_rf (some this)), (1, .int l1)] []) (l1 : Int32) (h : CT) (hf : pX13_runs_b2 g this k2 l1 h = some h0) : J X g h 2 [(0, va_rf (some this)), (1, .int l1)] [] := by
  unfold pX13_runs_b2 at hf
  refine J_iload_n Z.1 1 dX13_runs_2 rfl rfl ?_
  refine J_bipush Z.1 (v := 96) (by decide) dX13_runs_3 ?_
  refine J_icmp_ge Z.1 28 dX13_runs_5 (by decide) (fun c1 => ?_) (fun c1 => ?_)
  · rw [if_pos c1] at hf
    refine J_iconst Z.1 (v := 0) (by decide) dX13_runs_28 ?_
    refine J_istore_n Z.1 (lv2 := [(1, .int 0), (0, va_rf (some this))]) dX13_runs_29 rfl (zL Z (by decide)) rfl ?_
    refine J_lv [1, 0] rfl ?_
    exact pX13_runs_l30_ok Z hK t0  FUEL _ _ hf
  · rw [if_neg c1] at hf
    refine J_aload_n Z.1 0 dX13_runs_8 rfl rfl ?_
    refine J_get (v := va_rf (hR h this 23)) Z.1 dX13_runs_9 fl_X13_38 t0 rfl ?_
    refine J_tr (fun r2 er2 => ?_)
    replace hf := lt_i hf r2 er2
    refine J_iload_n Z.1 1 dX13_runs_12 rfl rfl ?_
    refine J_iconst Z.1 (v := 0) (by decide) dX13_runs_13 ?_
    replace hf := nn_i hf
    obtain ⟨a2, rfl, hf⟩ := hf
    replace hf := tg_i hf
    obtain ⟨t3, hf⟩ := hf
    replace hf := ix_i hf
    obtain ⟨i4, hf⟩ := hf
    refine J_iastore Z.1 dX13_runs_14 t3 i4 ?_
    refine J_th (fun h5 eh5 => ?_)
    replace hf := lt_i hf h5 eh5
    refine J_aload_n Z.1 0 dX13_runs_15 rfl rfl ?_
    refine J_get (v := va_rf (hR h5 this 24)) Z.1 dX13_runs_16 fl_X13_41 t0 rfl ?_
    refine J_tr (fun r6 er6 => ?_)
    replace hf := lt_i hf r6 er6
    refine J_iload_n Z.1 1 dX13_runs_19 rfl rfl ?_
    refine J_iconst Z.1 (v := 0) (by decide) dX13_runs_20 ?_
    replace hf := nn_i hf
    obtain ⟨a6, rfl, hf⟩ := hf
    replace hf := tg_i hf
    obtain ⟨t7, hf⟩ := hf
    replace hf := ix_i hf
    obtain ⟨i8, hf⟩ := hf
    refine J_iastore Z.1 dX13_runs_21 t7 i8 ?_
    refine J_th (fun h9 eh9 => ?_)
    replace hf := lt_i hf h9 eh9
    refine J_iinc Z.1 (v := 1) (lv2 := [(1, .int (l1 + 1)), (0, va_rf (some this))]) 1 dX13_runs_22 rfl (by decide) (zL Z (by decide)) rfl ?_
    obtain ⟨x10, ex10⟩ : ∃ z, z = (l1 + 1) := ⟨_, rfl⟩
    replace hf := lt_i hf x10 ex10
    rw [← ex10]
    refine J_goto Z.1 2 dX13_runs_25 (by decide) ?_
    refine J_lv [1, 0] rfl ?_
    exact hk2 _ _ hf
def pX13_runs_l2 (g : MT) (this : Nat) : Nat → Int32 → CT → Option CT
  | 0, _, _ => none
  | n + 1, l1, h => pX13_runs_b2 g this (pX13_runs_l2 g this n) l1 h
theorem pX13_runs_l2_ok {X : Cx} {G : Gx} {dk : Nat} {g : MT} {h0 : CT} {this : Nat} (Z : Zx X G cX13_runs RX13 2 dk none none g h0) (hK : 127 ≤ dk) (t0 : gT g this = 12) : ∀ (n : Nat) (l1 : Int32) (h : CT), pX13_runs_l2 g this n l1 h = some h0 → J X g h 2 [(0, va_rf (some this)), (1, .int l1)] [] := by
  intro n
  induction n with
  | zero => intro l1 h hf; cases hf
  | succ n ih => intro l1 h hf; exact pX13_runs_b2_ok Z hK t0 ih l1 h hf
def pX13_runs (g : MT) (h : CT) (this : Nat) : Option CT := tg g this 12 (pX13_runs_l2 g this  FUEL 0 h)
set_option maxRecDepth 10000 in
set_option maxHeartbeats 4000000 in
theorem pX13_runs_ok (G : Gx) (dk : Nat) (hK : 127 ≤ dk) {g : MT} {h h0 : CT} {this : Nat} (hf : pX13_runs g h this = some h0) : Ctr G dk yX13_runs cX13_runs 2 none [va_rf (some this)] g h none g h0 := by
  refine Ctr.ofZ (lv := [(0, va_rf (some this))]) (by decide +kernel) (by simp [cat_i, cat_l, cat_d, cat_rf]) rfl fun X Z => ?_
  unfold pX13_runs at hf
  replace hf := tg_i hf
  obtain ⟨t0, hf⟩ := hf
  refine J_iconst Z.1 (v := 0) (by decide) dX13_runs_0 ?_
  refine J_istore_n Z.1 (lv2 := [(1, .int 0), (0, va_rf (some this))]) dX13_runs_1 rfl (zL Z (by decide)) rfl ?_
  refine J_lv [1, 0] rfl ?_
  exact pX13_runs_l2_ok Z hK t0  FUEL _ _ hf
theorem dX13_run_0 : decode cX13_run 0 = .ok (.aload_n 0, 1) := by decide +kernel
theorem dX13_run_1 : decode cX13_run 1 = .ok (.iconst 0, 1) := by decide +kernel
theorem dX13_run_2 : decode cX13_run 2 = .ok (.putfield 71, 3) := by decide +kernel
theorem dX13_run_5 : decode cX13_run 5 = .ok (.aload_n 0, 1) := by decide +kernel
theorem dX13_run_6 : decode cX13_run 6 = .ok (.iconst 0, 1) := by decide +kernel
theorem dX13_run_7 : decode cX13_run 7 = .ok (.putfield 74, 3) := by decide +kernel
theorem dX13_run_10 : decode cX13_run 10 = .ok (.aload_n 0, 1) := by decide +kernel
theorem dX13_run_11 : decode cX13_run 11 = .ok (.getfield 31, 3) := by decide +kernel
theorem dX13_run_14 : decode cX13_run 14 = .ok (.iconst 5, 1) := by decide +kernel
theorem dX13_run_15 : decode cX13_run 15 = .ok (.iaload, 1) := by decide +kernel
theorem dX13_run_16 : decode cX13_run 16 = .ok (.ifCond .ne 10, 3) := by decide +kernel
theorem dX13_run_19 : decode cX13_run 19 = .ok (.aload_n 0, 1) := by decide +kernel
theorem dX13_run_20 : decode cX13_run 20 = .ok (.bipush 8, 2) := by decide +kernel
theorem dX13_run_22 : decode cX13_run 22 = .ok (.invokevirtual 268, 3) := by decide +kernel
theorem dX13_run_25 : decode cX13_run 25 = .ok (.ireturn, 1) := by decide +kernel
theorem dX13_run_26 : decode cX13_run 26 = .ok (.aload_n 0, 1) := by decide +kernel
theorem dX13_run_27 : decode cX13_run 27 = .ok (.invokevirtual 535, 3) := by decide +kernel
theorem dX13_run_30 : decode cX13_run 30 = .ok (.aload_n 0, 1) := by decide +kernel
theorem dX13_run_31 : decode cX13_run 31 = .ok (.getfield 59, 3) := by decide +kernel
theorem dX13_run_34 : decode cX13_run 34 = .ok (.iconst 0, 1) := by decide +kernel
theorem dX13_run_35 : decode cX13_run 35 = .ok (.aload_n 0, 1) := by decide +kernel
theorem dX13_run_36 : decode cX13_run 36 = .ok (.getfield 366, 3) := by decide +kernel
theorem dX13_run_39 : decode cX13_run 39 = .ok (.iastore, 1) := by decide +kernel
theorem dX13_run_40 : decode cX13_run 40 = .ok (.aload_n 0, 1) := by decide +kernel
theorem dX13_run_41 : decode cX13_run 41 = .ok (.getfield 59, 3) := by decide +kernel
theorem dX13_run_44 : decode cX13_run 44 = .ok (.iconst 1, 1) := by decide +kernel
theorem dX13_run_45 : decode cX13_run 45 = .ok (.aload_n 0, 1) := by decide +kernel
theorem dX13_run_46 : decode cX13_run 46 = .ok (.getfield 441, 3) := by decide +kernel
theorem dX13_run_49 : decode cX13_run 49 = .ok (.iastore, 1) := by decide +kernel
theorem dX13_run_50 : decode cX13_run 50 = .ok (.aload_n 0, 1) := by decide +kernel
theorem dX13_run_51 : decode cX13_run 51 = .ok (.getfield 59, 3) := by decide +kernel
theorem dX13_run_54 : decode cX13_run 54 = .ok (.iconst 2, 1) := by decide +kernel
theorem dX13_run_55 : decode cX13_run 55 = .ok (.aload_n 0, 1) := by decide +kernel
theorem dX13_run_56 : decode cX13_run 56 = .ok (.getfield 521, 3) := by decide +kernel
theorem dX13_run_59 : decode cX13_run 59 = .ok (.iastore, 1) := by decide +kernel
theorem dX13_run_60 : decode cX13_run 60 = .ok (.aload_n 0, 1) := by decide +kernel
theorem dX13_run_61 : decode cX13_run 61 = .ok (.getfield 59, 3) := by decide +kernel
theorem dX13_run_64 : decode cX13_run 64 = .ok (.iconst 3, 1) := by decide +kernel
theorem dX13_run_65 : decode cX13_run 65 = .ok (.aload_n 0, 1) := by decide +kernel
theorem dX13_run_66 : decode cX13_run 66 = .ok (.getfield 369, 3) := by decide +kernel
theorem dX13_run_69 : decode cX13_run 69 = .ok (.iastore, 1) := by decide +kernel
theorem dX13_run_70 : decode cX13_run 70 = .ok (.aload_n 0, 1) := by decide +kernel
theorem dX13_run_71 : decode cX13_run 71 = .ok (.getfield 59, 3) := by decide +kernel
theorem dX13_run_74 : decode cX13_run 74 = .ok (.iconst 4, 1) := by decide +kernel
theorem dX13_run_75 : decode cX13_run 75 = .ok (.aload_n 0, 1) := by decide +kernel
theorem dX13_run_76 : decode cX13_run 76 = .ok (.getfield 369, 3) := by decide +kernel
theorem dX13_run_79 : decode cX13_run 79 = .ok (.ifCond .le 10, 3) := by decide +kernel
theorem dX13_run_82 : decode cX13_run 82 = .ok (.aload_n 0, 1) := by decide +kernel
theorem dX13_run_83 : decode cX13_run 83 = .ok (.getfield 372, 3) := by decide +kernel
theorem dX13_run_86 : decode cX13_run 86 = .ok (.goto 4, 3) := by decide +kernel
theorem dX13_run_89 : decode cX13_run 89 = .ok (.iconst (-1), 1) := by decide +kernel
theorem dX13_run_90 : decode cX13_run 90 = .ok (.iastore, 1) := by decide +kernel
theorem dX13_run_91 : decode cX13_run 91 = .ok (.aload_n 0, 1) := by decide +kernel
theorem dX13_run_92 : decode cX13_run 92 = .ok (.getfield 59, 3) := by decide +kernel
theorem dX13_run_95 : decode cX13_run 95 = .ok (.iconst 5, 1) := by decide +kernel
theorem dX13_run_96 : decode cX13_run 96 = .ok (.aload_n 0, 1) := by decide +kernel
theorem dX13_run_97 : decode cX13_run 97 = .ok (.getfield 369, 3) := by decide +kernel
theorem dX13_run_100 : decode cX13_run 100 = .ok (.ifCond .le 10, 3) := by decide +kernel
theorem dX13_run_103 : decode cX13_run 103 = .ok (.aload_n 0, 1) := by decide +kernel
theorem dX13_run_104 : decode cX13_run 104 = .ok (.getfield 375, 3) := by decide +kernel
theorem dX13_run_107 : decode cX13_run 107 = .ok (.goto 4, 3) := by decide +kernel
theorem dX13_run_110 : decode cX13_run 110 = .ok (.iconst (-1), 1) := by decide +kernel
theorem dX13_run_111 : decode cX13_run 111 = .ok (.iastore, 1) := by decide +kernel
theorem dX13_run_112 : decode cX13_run 112 = .ok (.iconst 0, 1) := by decide +kernel
theorem dX13_run_113 : decode cX13_run 113 = .ok (.istore_n 1, 1) := by decide +kernel
theorem dX13_run_114 : decode cX13_run 114 = .ok (.iload_n 1, 1) := by decide +kernel
theorem dX13_run_115 : decode cX13_run 115 = .ok (.bipush 30, 2) := by decide +kernel
theorem dX13_run_117 : decode cX13_run 117 = .ok (.if_icmp .ge 33, 3) := by decide +kernel
theorem dX13_run_120 : decode cX13_run 120 = .ok (.aload_n 0, 1) := by decide +kernel
theorem dX13_run_121 : decode cX13_run 121 = .ok (.getfield 62, 3) := by decide +kernel
theorem dX13_run_124 : decode cX13_run 124 = .ok (.iload_n 1, 1) := by decide +kernel
theorem dX13_run_125 : decode cX13_run 125 = .ok (.aload_n 0, 1) := by decide +kernel
theorem dX13_run_126 : decode cX13_run 126 = .ok (.getfield 50, 3) := by decide +kernel
theorem dX13_run_129 : decode cX13_run 129 = .ok (.iload_n 1, 1) := by decide +kernel
theorem dX13_run_130 : decode cX13_run 130 = .ok (.iaload, 1) := by decide +kernel
theorem dX13_run_131 : decode cX13_run 131 = .ok (.iastore, 1) := by decide +kernel
theorem dX13_run_132 : decode cX13_run 132 = .ok (.aload_n 0, 1) := by decide +kernel
theorem dX13_run_133 : decode cX13_run 133 = .ok (.getfield 65, 3) := by decide +kernel
theorem dX13_run_136 : decode cX13_run 136 = .ok (.iload_n 1, 1) := by decide +kernel
theorem dX13_run_137 : decode cX13_run 137 = .ok (.aload_n 0, 1) := by decide +kernel
theorem dX13_run_138 : decode cX13_run 138 = .ok (.getfield 53, 3) := by decide +kernel
theorem dX13_run_141 : decode cX13_run 141 = .ok (.iload_n 1, 1) := by decide +kernel
theorem dX13_run_142 : decode cX13_run 142 = .ok (.iaload, 1) := by decide +kernel
theorem dX13_run_143 : decode cX13_run 143 = .ok (.iastore, 1) := by decide +kernel
theorem dX13_run_144 : decode cX13_run 144 = .ok (.iinc 1 1, 3) := by decide +kernel
theorem dX13_run_147 : decode cX13_run 147 = .ok (.goto (-33), 3) := by decide +kernel
theorem dX13_run_150 : decode cX13_run 150 = .ok (.aload_n 0, 1) := by decide +kernel
theorem dX13_run_151 : decode cX13_run 151 = .ok (.iconst 1, 1) := by decide +kernel
theorem dX13_run_152 : decode cX13_run 152 = .ok (.putfield 538, 3) := by decide +kernel
theorem dX13_run_155 : decode cX13_run 155 = .ok (.aload_n 0, 1) := by decide +kernel
theorem dX13_run_156 : decode cX13_run 156 = .ok (.iconst 1, 1) := by decide +kernel
theorem dX13_run_157 : decode cX13_run 157 = .ok (.putfield 271, 3) := by decide +kernel
theorem dX13_run_160 : decode cX13_run 160 = .ok (.aload_n 0, 1) := by decide +kernel
theorem dX13_run_161 : decode cX13_run 161 = .ok (.getfield 369, 3) := by decide +kernel
theorem dX13_run_164 : decode cX13_run 164 = .ok (.ifCond .le 12, 3) := by decide +kernel
theorem dX13_run_167 : decode cX13_run 167 = .ok (.aload_n 0, 1) := by decide +kernel
theorem dX13_run_168 : decode cX13_run 168 = .ok (.bipush 12, 2) := by decide +kernel
theorem dX13_run_170 : decode cX13_run 170 = .ok (.invokevirtual 268, 3) := by decide +kernel
theorem dX13_run_173 : decode cX13_run 173 = .ok (.goto 7, 3) := by decide +kernel
theorem dX13_run_176 : decode cX13_run 176 = .ok (.aload_n 0, 1) := by decide +kernel
theorem dX13_run_177 : decode cX13_run 177 = .ok (.getfield 521, 3) := by decide +kernel
theorem dX13_run_180 : decode cX13_run 180 = .ok (.ireturn, 1) := by decide +kernel
def pX13_run_b114 (g : MT) (this : Nat) (k114 : Int32 → CT → Option ((Int32) × CT)) (l1 : Int32) (h : CT) : Option ((Int32) × CT) := if 30 ≤ l1 then lt (sI h this 41 1) fun h2 => (lt (sI h2 this 22 1) fun h3 => (if (hI h3 this 37) ≤ 0 then some ((hI h3 this 36), h3) else bd2 (pX13_refuse g h3 this 12) fun x7 h5 => (some (x7, h5)))) else lt (hR h this 46) fun r8 => (lt (hR h this 27) fun r9 => (nn r9 fun a9 => (tg g a9 20 (ix (gL g a9) l1 (nn r8 fun a8 => (tg g a8 20 (ix (gL g a8) l1 (lt (sI h a8 (Int32.toNatClampNeg l1) (hI h a9 (Int32.toNatClampNeg l1))) fun h14 => (lt (hR h14 this 47) fun r15 => (lt (hR h14 this 28) fun r16 => (nn r16 fun a16 => (tg g a16 20 (ix (gL g a16) l1 (nn r15 fun a15 => (tg g a15 20 (ix (gL g a15) l1 (lt (sI h14 a15 (Int32.toNatClampNeg l1) (hI h14 a16 (Int32.toNatClampNeg l1))) fun h21 => (lt (l1 + 1) fun x22 => (k114 x22 h21)))))))))))))))))))
set_option maxRecDepth 10000 in
set_option maxHeartbeats 4000000 in
theorem pX13_run_b114_ok {X : Cx} {G : Gx} {dk : Nat} {g : MT} {r0 : Int32} {h0 : CT} {this : Nat} {k114 : Int32 → CT → Option ((Int32) × CT)} (Z : Zx X G cX13_run RX13 2 dk (some .int) (some (.int r0)) g h0) (hK : 128 ≤ dk) (t0 : gT g this = 12) (hk114 : ∀ (l1 : Int32) (h : CT), k114 l1 h = some (r0, h0) → J X g h 114 [(0, va_rf (some this)), (1, .int l1)] []) (l1 : Int32) (h : CT) (hf : pX13_run_b114 g this k114 l1 h = some (r0, h0)) : J X g h 114 [(0, va_rf (some this)), (1, .int l1)] [] := by
  unfold pX13_run_b114 at hf
  refine J_iload_n Z.1 1 dX13_run_114 rfl rfl ?_
  refine J_bipush Z.1 (v := 30) (by decide) dX13_run_115 ?_
  refine J_icmp_ge Z.1 150 dX13_run_117 (by decide) (fun c1 => ?_) (fun c1 => ?_)
  · rw [if_pos c1] at hf
    refine J_aload_n Z.1 0 dX13_run_150 rfl rfl ?_
    refine J_iconst Z.1 (v := 1) (by decide) dX13_run_151 ?_
    refine J_putI Z.1 dX13_run_152 fl_X13_538 (fun q => by cases q) t0 (z_n (Or.inr rfl)) (z_f (Or.inr rfl)) (congrArg Value.int (hI_s _ _ _ _)) ?_
    refine J_th (fun h2 eh2 => ?_)
    replace hf := lt_i hf h2 eh2
    refine J_aload_n Z.1 0 dX13_run_155 rfl rfl ?_
    refine J_iconst Z.1 (v := 1) (by decide) dX13_run_156 ?_
    refine J_putI Z.1 dX13_run_157 fl_X13_271 (fun q => by cases q) t0 (z_n (Or.inr rfl)) (z_f (Or.inr rfl)) (congrArg Value.int (hI_s _ _ _ _)) ?_
    refine J_th (fun h3 eh3 => ?_)
    replace hf := lt_i hf h3 eh3
    refine J_aload_n Z.1 0 dX13_run_160 rfl rfl ?_
    refine J_get (v := .int (hI h3 this 37)) Z.1 dX13_run_161 fl_X13_369 t0 rfl ?_
    refine J_if_le Z.1 176 dX13_run_164 (by decide) (fun c4 => ?_) (fun c4 => ?_)
    · rw [if_pos c4] at hf
      refine J_aload_n Z.1 0 dX13_run_176 rfl rfl ?_
      refine J_get (v := .int (hI h3 this 36)) Z.1 dX13_run_177 fl_X13_521 t0 rfl ?_
      cases hf
      exact J_iret Z.1 Z.2.2.2.2.2 dX13_run_180
    · rw [if_neg c4] at hf
      refine J_aload_n Z.1 0 dX13_run_167 rfl rfl ?_
      refine J_bipush Z.1 (v := 12) (by decide) dX13_run_168 ?_
      replace hf := bd2_i hf
      obtain ⟨x7, h5, q6, hf⟩ := hf
      refine J_callV (ci := 11) (as := [.int 12]) (rest := []) (sy := [.int x7]) Z.1 dX13_run_170 cw_X13_268 (pX13_refuse_ok G (dk - 1) (by omega) q6) rfl rfl t0 (zG Z) rfl (by decide) (zF Z (by omega)) (zO Z (by omega) (by decide)) (zM _) Z.2.1 Z.2.1 rfl rfl ?_
      refine J_goto Z.1 180 dX13_run_173 (by decide) ?_
      cases hf
      exact J_iret Z.1 Z.2.2.2.2.2 dX13_run_180
  · rw [if_neg c1] at hf
    refine J_aload_n Z.1 0 dX13_run_120 rfl rfl ?_
    refine J_get (v := va_rf (hR h this 46)) Z.1 dX13_run_121 fl_X13_62 t0 rfl ?_
    refine J_tr (fun r8 er8 => ?_)
    replace hf := lt_i hf r8 er8
    refine J_iload_n Z.1 1 dX13_run_124 rfl rfl ?_
    refine J_aload_n Z.1 0 dX13_run_125 rfl rfl ?_
    refine J_get (v := va_rf (hR h this 27)) Z.1 dX13_run_126 fl_X13_50 t0 rfl ?_
    refine J_tr (fun r9 er9 => ?_)
    replace hf := lt_i hf r9 er9
    refine J_iload_n Z.1 1 dX13_run_129 rfl rfl ?_
    replace hf := nn_i hf
    obtain ⟨a9, rfl, hf⟩ := hf
    replace hf := tg_i hf
    obtain ⟨t10, hf⟩ := hf
    replace hf := ix_i hf
    obtain ⟨i11, hf⟩ := hf
    refine J_iaload Z.1 dX13_run_130 t10 i11 ?_
    replace hf := nn_i hf
    obtain ⟨a8, rfl, hf⟩ := hf
    replace hf := tg_i hf
    obtain ⟨t12, hf⟩ := hf
    replace hf := ix_i hf
    obtain ⟨i13, hf⟩ := hf
    refine J_iastore Z.1 dX13_run_131 t12 i13 ?_
    refine J_th (fun h14 eh14 => ?_)
    replace hf := lt_i hf h14 eh14
    refine J_aload_n Z.1 0 dX13_run_132 rfl rfl ?_
    refine J_get (v := va_rf (hR h14 this 47)) Z.1 dX13_run_133 fl_X13_65 t0 rfl ?_
    refine J_tr (fun r15 er15 => ?_)
    replace hf := lt_i hf r15 er15
    refine J_iload_n Z.1 1 dX13_run_136 rfl rfl ?_
    refine J_aload_n Z.1 0 dX13_run_137 rfl rfl ?_
    refine J_get (v := va_rf (hR h14 this 28)) Z.1 dX13_run_138 fl_X13_53 t0 rfl ?_
    refine J_tr (fun r16 er16 => ?_)
    replace hf := lt_i hf r16 er16
    refine J_iload_n Z.1 1 dX13_run_141 rfl rfl ?_
    replace hf := nn_i hf
    obtain ⟨a16, rfl, hf⟩ := hf
    replace hf := tg_i hf
    obtain ⟨t17, hf⟩ := hf
    replace hf := ix_i hf
    obtain ⟨i18, hf⟩ := hf
    refine J_iaload Z.1 dX13_run_142 t17 i18 ?_
    replace hf := nn_i hf
    obtain ⟨a15, rfl, hf⟩ := hf
    replace hf := tg_i hf
    obtain ⟨t19, hf⟩ := hf
    replace hf := ix_i hf
    obtain ⟨i20, hf⟩ := hf
    refine J_iastore Z.1 dX13_run_143 t19 i20 ?_
    refine J_th (fun h21 eh21 => ?_)
    replace hf := lt_i hf h21 eh21
    refine J_iinc Z.1 (v := 1) (lv2 := [(1, .int (l1 + 1)), (0, va_rf (some this))]) 1 dX13_run_144 rfl (by decide) (zL Z (by decide)) rfl ?_
    obtain ⟨x22, ex22⟩ : ∃ z, z = (l1 + 1) := ⟨_, rfl⟩
    replace hf := lt_i hf x22 ex22
    rw [← ex22]
    refine J_goto Z.1 114 dX13_run_147 (by decide) ?_
    refine J_lv [1, 0] rfl ?_
    exact hk114 _ _ hf
def pX13_run_l114 (g : MT) (this : Nat) : Nat → Int32 → CT → Option ((Int32) × CT)
  | 0, _, _ => none
  | n + 1, l1, h => pX13_run_b114 g this (pX13_run_l114 g this n) l1 h
theorem pX13_run_l114_ok {X : Cx} {G : Gx} {dk : Nat} {g : MT} {r0 : Int32} {h0 : CT} {this : Nat} (Z : Zx X G cX13_run RX13 2 dk (some .int) (some (.int r0)) g h0) (hK : 128 ≤ dk) (t0 : gT g this = 12) : ∀ (n : Nat) (l1 : Int32) (h : CT), pX13_run_l114 g this n l1 h = some (r0, h0) → J X g h 114 [(0, va_rf (some this)), (1, .int l1)] [] := by
  intro n
  induction n with
  | zero => intro l1 h hf; cases hf
  | succ n ih => intro l1 h hf; exact pX13_run_b114_ok Z hK t0 ih l1 h hf
def pX13_run_b111 (g : MT) (this : Nat) (r80 : Option Nat) (s1 : Int32) (s2 : Int32) (h : CT) : Option ((Int32) × CT) := nn r80 fun a80 => (tg g a80 20 (ix (gL g a80) s1 (lt (sI h a80 (Int32.toNatClampNeg s1) s2) fun h3 => (pX13_run_l114 g this  FUEL 0 h3))))
set_option maxRecDepth 10000 in
set_option maxHeartbeats 4000000 in
theorem pX13_run_b111_ok {X : Cx} {G : Gx} {dk : Nat} {g : MT} {r0 : Int32} {h0 : CT} {this : Nat} (Z : Zx X G cX13_run RX13 2 dk (some .int) (some (.int r0)) g h0) (hK : 128 ≤ dk) (t0 : gT g this = 12) (r80 : Option Nat) (s1 : Int32) (s2 : Int32) (h : CT) (hf : pX13_run_b111 g this r80 s1 s2 h = some (r0, h0)) : J X g h 111 [(0, va_rf (some this))] [.int s2, .int s1, va_rf r80] := by
  unfold pX13_run_b111 at hf
  replace hf := nn_i hf
  obtain ⟨a80, rfl, hf⟩ := hf
  replace hf := tg_i hf
  obtain ⟨t1, hf⟩ := hf
  replace hf := ix_i hf
  obtain ⟨i2, hf⟩ := hf
  refine J_iastore Z.1 dX13_run_111 t1 i2 ?_
  refine J_th (fun h3 eh3 => ?_)
  replace hf := lt_i hf h3 eh3
  refine J_iconst Z.1 (v := 0) (by decide) dX13_run_112 ?_
  refine J_istore_n Z.1 (lv2 := [(1, .int 0), (0, va_rf (some this))]) dX13_run_113 rfl (zL Z (by decide)) rfl ?_
  refine J_lv [1, 0] rfl ?_
  exact pX13_run_l114_ok Z hK t0  FUEL _ _ hf
def pX13_run_b90 (g : MT) (this : Nat) (r80 : Option Nat) (s1 : Int32) (s2 : Int32) (h : CT) : Option ((Int32) × CT) := nn r80 fun a80 => (tg g a80 20 (ix (gL g a80) s1 (lt (sI h a80 (Int32.toNatClampNeg s1) s2) fun h3 => (lt (hR h3 this 45) fun r4 => (if (hI h3 this 37) ≤ 0 then pX13_run_b111 g this  r4 5 (-1) h3 else pX13_run_b111 g this  r4 5 (hI h3 this 39) h3)))))
set_option maxRecDepth 10000 in
set_option maxHeartbeats 4000000 in
theorem pX13_run_b90_ok {X : Cx} {G : Gx} {dk : Nat} {g : MT} {r0 : Int32} {h0 : CT} {this : Nat} (Z : Zx X G cX13_run RX13 2 dk (some .int) (some (.int r0)) g h0) (hK : 128 ≤ dk) (t0 : gT g this = 12) (r80 : Option Nat) (s1 : Int32) (s2 : Int32) (h : CT) (hf : pX13_run_b90 g this r80 s1 s2 h = some (r0, h0)) : J X g h 90 [(0, va_rf (some this))] [.int s2, .int s1, va_rf r80] := by
  unfold pX13_run_b90 at hf
  replace hf := nn_i hf
  obtain ⟨a80, rfl, hf⟩ := hf
  replace hf := tg_i hf
  obtain ⟨t1, hf⟩ := hf
  replace hf := ix_i hf
  obtain ⟨i2, hf⟩ := hf
  refine J_iastore Z.1 dX13_run_90 t1 i2 ?_
  refine J_th (fun h3 eh3 => ?_)
  replace hf := lt_i hf h3 eh3
  refine J_aload_n Z.1 0 dX13_run_91 rfl rfl ?_
  refine J_get (v := va_rf (hR h3 this 45)) Z.1 dX13_run_92 fl_X13_59 t0 rfl ?_
  refine J_tr (fun r4 er4 => ?_)
  replace hf := lt_i hf r4 er4
  refine J_iconst Z.1 (v := 5) (by decide) dX13_run_95 ?_
  refine J_aload_n Z.1 0 dX13_run_96 rfl rfl ?_
  refine J_get (v := .int (hI h3 this 37)) Z.1 dX13_run_97 fl_X13_369 t0 rfl ?_
  refine J_if_le Z.1 110 dX13_run_100 (by decide) (fun c5 => ?_) (fun c5 => ?_)
  · rw [if_pos c5] at hf
    refine J_iconst Z.1 (v := (-1)) (by decide) dX13_run_110 ?_
    exact pX13_run_b111_ok Z hK t0  _ _ _ _ hf
  · rw [if_neg c5] at hf
    refine J_aload_n Z.1 0 dX13_run_103 rfl rfl ?_
    refine J_get (v := .int (hI h3 this 39)) Z.1 dX13_run_104 fl_X13_375 t0 rfl ?_
    refine J_goto Z.1 111 dX13_run_107 (by decide) ?_
    exact pX13_run_b111_ok Z hK t0  _ _ _ _ hf
def pX13_run (g : MT) (h : CT) (this : Nat) : Option ((Int32) × CT) := tg g this 12 (lt (sI h this 1 0) fun h1 => (lt (sI h1 this 0 0) fun h2 => (lt (hR h2 this 19) fun r3 => (nn r3 fun a3 => (tg g a3 20 (ix (gL g a3) 5 (if (hI h2 a3 (Int32.toNatClampNeg 5)) = 0 then bd2 (pX13_refuse g h2 this 8) fun x29 h27 => (some (x29, h27)) else bd (pX13_runs g h2 this) fun h7 => (lt (hR h7 this 45) fun r9 => (nn r9 fun a9 => (tg g a9 20 (ix (gL g a9) 0 (lt (sI h7 a9 (Int32.toNatClampNeg 0) (hI h7 this 34)) fun h12 => (lt (hR h12 this 45) fun r13 => (nn r13 fun a13 => (tg g a13 20 (ix (gL g a13) 1 (lt (sI h12 a13 (Int32.toNatClampNeg 1) (hI h12 this 35)) fun h16 => (lt (hR h16 this 45) fun r17 => (nn r17 fun a17 => (tg g a17 20 (ix (gL g a17) 2 (lt (sI h16 a17 (Int32.toNatClampNeg 2) (hI h16 this 36)) fun h20 => (lt (hR h20 this 45) fun r21 => (nn r21 fun a21 => (tg g a21 20 (ix (gL g a21) 3 (lt (sI h20 a21 (Int32.toNatClampNeg 3) (hI h20 this 37)) fun h24 => (lt (hR h24 this 45) fun r25 => (if (hI h24 this 37) ≤ 0 then pX13_run_b90 g this  r25 4 (-1) h24 else pX13_run_b90 g this  r25 4 (hI h24 this 38) h24)))))))))))))))))))))))))))))
set_option maxRecDepth 10000 in
set_option maxHeartbeats 4000000 in
theorem pX13_run_ok (G : Gx) (dk : Nat) (hK : 128 ≤ dk) {g : MT} {h h0 : CT} {this : Nat} {r0 : Int32} (hf : pX13_run g h this = some (r0, h0)) : Ctr G dk yX13_run cX13_run 2 (some .int) [va_rf (some this)] g h (some (.int r0)) g h0 := by
  refine Ctr.ofZ (lv := [(0, va_rf (some this))]) (by decide +kernel) (by simp [cat_i, cat_l, cat_d, cat_rf]) rfl fun X Z => ?_
  unfold pX13_run at hf
  replace hf := tg_i hf
  obtain ⟨t0, hf⟩ := hf
  refine J_aload_n Z.1 0 dX13_run_0 rfl rfl ?_
  refine J_iconst Z.1 (v := 0) (by decide) dX13_run_1 ?_
  refine J_putI Z.1 dX13_run_2 fl_X13_71 (fun q => by cases q) t0 rfl rfl (congrArg Value.int (hI_s _ _ _ _)) ?_
  refine J_th (fun h1 eh1 => ?_)
  replace hf := lt_i hf h1 eh1
  refine J_aload_n Z.1 0 dX13_run_5 rfl rfl ?_
  refine J_iconst Z.1 (v := 0) (by decide) dX13_run_6 ?_
  refine J_putI Z.1 dX13_run_7 fl_X13_74 (fun q => by cases q) t0 rfl rfl (congrArg Value.int (hI_s _ _ _ _)) ?_
  refine J_th (fun h2 eh2 => ?_)
  replace hf := lt_i hf h2 eh2
  refine J_aload_n Z.1 0 dX13_run_10 rfl rfl ?_
  refine J_get (v := va_rf (hR h2 this 19)) Z.1 dX13_run_11 fl_X13_31 t0 rfl ?_
  refine J_tr (fun r3 er3 => ?_)
  replace hf := lt_i hf r3 er3
  refine J_iconst Z.1 (v := 5) (by decide) dX13_run_14 ?_
  replace hf := nn_i hf
  obtain ⟨a3, rfl, hf⟩ := hf
  replace hf := tg_i hf
  obtain ⟨t4, hf⟩ := hf
  replace hf := ix_i hf
  obtain ⟨i5, hf⟩ := hf
  refine J_iaload Z.1 dX13_run_15 t4 i5 ?_
  refine J_if_ne Z.1 26 dX13_run_16 (by decide) (fun c6 => ?_) (fun c6 => ?_)
  · rw [if_neg c6] at hf
    refine J_aload_n Z.1 0 dX13_run_26 rfl rfl ?_
    replace hf := bd_i hf
    obtain ⟨h7, q8, hf⟩ := hf
    refine J_callV (ci := 11) (as := []) (rest := []) (sy := []) Z.1 dX13_run_27 cw_X13_535 (pX13_runs_ok G (dk - 1) (by omega) q8) rfl rfl t0 (zG Z) rfl (by decide) (zF Z (by omega)) (zO Z (by omega) (by decide)) (zM _) Z.2.1 Z.2.1 rfl rfl ?_
    refine J_aload_n Z.1 0 dX13_run_30 rfl rfl ?_
    refine J_get (v := va_rf (hR h7 this 45)) Z.1 dX13_run_31 fl_X13_59 t0 rfl ?_
    refine J_tr (fun r9 er9 => ?_)
    replace hf := lt_i hf r9 er9
    refine J_iconst Z.1 (v := 0) (by decide) dX13_run_34 ?_
    refine J_aload_n Z.1 0 dX13_run_35 rfl rfl ?_
    refine J_get (v := .int (hI h7 this 34)) Z.1 dX13_run_36 fl_X13_366 t0 rfl ?_
    replace hf := nn_i hf
    obtain ⟨a9, rfl, hf⟩ := hf
    replace hf := tg_i hf
    obtain ⟨t10, hf⟩ := hf
    replace hf := ix_i hf
    obtain ⟨i11, hf⟩ := hf
    refine J_iastore Z.1 dX13_run_39 t10 i11 ?_
    refine J_th (fun h12 eh12 => ?_)
    replace hf := lt_i hf h12 eh12
    refine J_aload_n Z.1 0 dX13_run_40 rfl rfl ?_
    refine J_get (v := va_rf (hR h12 this 45)) Z.1 dX13_run_41 fl_X13_59 t0 rfl ?_
    refine J_tr (fun r13 er13 => ?_)
    replace hf := lt_i hf r13 er13
    refine J_iconst Z.1 (v := 1) (by decide) dX13_run_44 ?_
    refine J_aload_n Z.1 0 dX13_run_45 rfl rfl ?_
    refine J_get (v := .int (hI h12 this 35)) Z.1 dX13_run_46 fl_X13_441 t0 rfl ?_
    replace hf := nn_i hf
    obtain ⟨a13, rfl, hf⟩ := hf
    replace hf := tg_i hf
    obtain ⟨t14, hf⟩ := hf
    replace hf := ix_i hf
    obtain ⟨i15, hf⟩ := hf
    refine J_iastore Z.1 dX13_run_49 t14 i15 ?_
    refine J_th (fun h16 eh16 => ?_)
    replace hf := lt_i hf h16 eh16
    refine J_aload_n Z.1 0 dX13_run_50 rfl rfl ?_
    refine J_get (v := va_rf (hR h16 this 45)) Z.1 dX13_run_51 fl_X13_59 t0 rfl ?_
    refine J_tr (fun r17 er17 => ?_)
    replace hf := lt_i hf r17 er17
    refine J_iconst Z.1 (v := 2) (by decide) dX13_run_54 ?_
    refine J_aload_n Z.1 0 dX13_run_55 rfl rfl ?_
    refine J_get (v := .int (hI h16 this 36)) Z.1 dX13_run_56 fl_X13_521 t0 rfl ?_
    replace hf := nn_i hf
    obtain ⟨a17, rfl, hf⟩ := hf
    replace hf := tg_i hf
    obtain ⟨t18, hf⟩ := hf
    replace hf := ix_i hf
    obtain ⟨i19, hf⟩ := hf
    refine J_iastore Z.1 dX13_run_59 t18 i19 ?_
    refine J_th (fun h20 eh20 => ?_)
    replace hf := lt_i hf h20 eh20
    refine J_aload_n Z.1 0 dX13_run_60 rfl rfl ?_
    refine J_get (v := va_rf (hR h20 this 45)) Z.1 dX13_run_61 fl_X13_59 t0 rfl ?_
    refine J_tr (fun r21 er21 => ?_)
    replace hf := lt_i hf r21 er21
    refine J_iconst Z.1 (v := 3) (by decide) dX13_run_64 ?_
    refine J_aload_n Z.1 0 dX13_run_65 rfl rfl ?_
    refine J_get (v := .int (hI h20 this 37)) Z.1 dX13_run_66 fl_X13_369 t0 rfl ?_
    replace hf := nn_i hf
    obtain ⟨a21, rfl, hf⟩ := hf
    replace hf := tg_i hf
    obtain ⟨t22, hf⟩ := hf
    replace hf := ix_i hf
    obtain ⟨i23, hf⟩ := hf
    refine J_iastore Z.1 dX13_run_69 t22 i23 ?_
    refine J_th (fun h24 eh24 => ?_)
    replace hf := lt_i hf h24 eh24
    refine J_aload_n Z.1 0 dX13_run_70 rfl rfl ?_
    refine J_get (v := va_rf (hR h24 this 45)) Z.1 dX13_run_71 fl_X13_59 t0 rfl ?_
    refine J_tr (fun r25 er25 => ?_)
    replace hf := lt_i hf r25 er25
    refine J_iconst Z.1 (v := 4) (by decide) dX13_run_74 ?_
    refine J_aload_n Z.1 0 dX13_run_75 rfl rfl ?_
    refine J_get (v := .int (hI h24 this 37)) Z.1 dX13_run_76 fl_X13_369 t0 rfl ?_
    refine J_if_le Z.1 89 dX13_run_79 (by decide) (fun c26 => ?_) (fun c26 => ?_)
    · rw [if_pos c26] at hf
      refine J_iconst Z.1 (v := (-1)) (by decide) dX13_run_89 ?_
      exact pX13_run_b90_ok Z hK t0  _ _ _ _ hf
    · rw [if_neg c26] at hf
      refine J_aload_n Z.1 0 dX13_run_82 rfl rfl ?_
      refine J_get (v := .int (hI h24 this 38)) Z.1 dX13_run_83 fl_X13_372 t0 rfl ?_
      refine J_goto Z.1 90 dX13_run_86 (by decide) ?_
      exact pX13_run_b90_ok Z hK t0  _ _ _ _ hf
  · rw [if_pos c6] at hf
    refine J_aload_n Z.1 0 dX13_run_19 rfl rfl ?_
    refine J_bipush Z.1 (v := 8) (by decide) dX13_run_20 ?_
    replace hf := bd2_i hf
    obtain ⟨x29, h27, q28, hf⟩ := hf
    refine J_callV (ci := 11) (as := [.int 8]) (rest := []) (sy := [.int x29]) Z.1 dX13_run_22 cw_X13_268 (pX13_refuse_ok G (dk - 1) (by omega) q28) rfl rfl t0 (zG Z) rfl (by decide) (zF Z (by omega)) (zO Z (by omega) (by decide)) (zM _) Z.2.1 Z.2.1 rfl rfl ?_
    cases hf
    exact J_iret Z.1 Z.2.2.2.2.2 dX13_run_25
theorem dX13_cyclesAside_0 : decode cX13_cyclesAside 0 = .ok (.aload_n 0, 1) := by decide +kernel
theorem dX13_cyclesAside_1 : decode cX13_cyclesAside 1 = .ok (.iconst 0, 1) := by decide +kernel
theorem dX13_cyclesAside_2 : decode cX13_cyclesAside 2 = .ok (.iconst 5, 1) := by decide +kernel
theorem dX13_cyclesAside_3 : decode cX13_cyclesAside 3 = .ok (.invokevirtual 589, 3) := by decide +kernel
theorem dX13_cyclesAside_6 : decode cX13_cyclesAside 6 = .ok (.iload_n 1, 1) := by decide +kernel
theorem dX13_cyclesAside_7 : decode cX13_cyclesAside 7 = .ok (.ifCond .lt 8, 3) := by decide +kernel
theorem dX13_cyclesAside_10 : decode cX13_cyclesAside 10 = .ok (.aload_n 0, 1) := by decide +kernel
theorem dX13_cyclesAside_11 : decode cX13_cyclesAside 11 = .ok (.iload_n 1, 1) := by decide +kernel
theorem dX13_cyclesAside_12 : decode cX13_cyclesAside 12 = .ok (.invokevirtual 592, 3) := by decide +kernel
theorem dX13_cyclesAside_15 : decode cX13_cyclesAside 15 = .ok (.aload_n 0, 1) := by decide +kernel
theorem dX13_cyclesAside_16 : decode cX13_cyclesAside 16 = .ok (.invokevirtual 535, 3) := by decide +kernel
theorem dX13_cyclesAside_19 : decode cX13_cyclesAside 19 = .ok (.aload_n 0, 1) := by decide +kernel
theorem dX13_cyclesAside_20 : decode cX13_cyclesAside 20 = .ok (.dup, 1) := by decide +kernel
theorem dX13_cyclesAside_21 : decode cX13_cyclesAside 21 = .ok (.getfield 595, 3) := by decide +kernel
theorem dX13_cyclesAside_24 : decode cX13_cyclesAside 24 = .ok (.aload_n 0, 1) := by decide +kernel
theorem dX13_cyclesAside_25 : decode cX13_cyclesAside 25 = .ok (.getfield 369, 3) := by decide +kernel
theorem dX13_cyclesAside_28 : decode cX13_cyclesAside 28 = .ok (.ifCond .le 7, 3) := by decide +kernel
theorem dX13_cyclesAside_31 : decode cX13_cyclesAside 31 = .ok (.iconst 1, 1) := by decide +kernel
theorem dX13_cyclesAside_32 : decode cX13_cyclesAside 32 = .ok (.goto 4, 3) := by decide +kernel
theorem dX13_cyclesAside_35 : decode cX13_cyclesAside 35 = .ok (.iconst 0, 1) := by decide +kernel
theorem dX13_cyclesAside_36 : decode cX13_cyclesAside 36 = .ok (.ior, 1) := by decide +kernel
theorem dX13_cyclesAside_37 : decode cX13_cyclesAside 37 = .ok (.putfield 595, 3) := by decide +kernel
theorem dX13_cyclesAside_40 : decode cX13_cyclesAside 40 = .ok (.aload_n 0, 1) := by decide +kernel
theorem dX13_cyclesAside_41 : decode cX13_cyclesAside 41 = .ok (.iconst 5, 1) := by decide +kernel
theorem dX13_cyclesAside_42 : decode cX13_cyclesAside 42 = .ok (.iconst 0, 1) := by decide +kernel
theorem dX13_cyclesAside_43 : decode cX13_cyclesAside 43 = .ok (.invokevirtual 589, 3) := by decide +kernel
theorem dX13_cyclesAside_46 : decode cX13_cyclesAside 46 = .ok (.aload_n 0, 1) := by decide +kernel
theorem dX13_cyclesAside_47 : decode cX13_cyclesAside 47 = .ok (.getfield 366, 3) := by decide +kernel
theorem dX13_cyclesAside_50 : decode cX13_cyclesAside 50 = .ok (.ireturn, 1) := by decide +kernel
def pX13_cyclesAside_b36 (g : MT) (this : Nat) (p1 : Int32) (s0 : Nat) (s1 : Int32) (s2 : Int32) (h : CT) : Option ((Int32) × CT) := bz (s1 ||| s2) (tg g s0 12 (lt (sI h s0 51 (s1 ||| s2)) fun h3 => (bd (pX13_copy g h3 this 5 0) fun h4 => (some ((hI h4 this 34), h4)))))
set_option maxRecDepth 10000 in
set_option maxHeartbeats 4000000 in
theorem pX13_cyclesAside_b36_ok {X : Cx} {G : Gx} {dk : Nat} {g : MT} {r0 : Int32} {h0 : CT} {this : Nat} {p1 : Int32} (Z : Zx X G cX13_cyclesAside RX13 2 dk (some .int) (some (.int r0)) g h0) (hK : 128 ≤ dk) (t0 : gT g this = 12) (s0 : Nat) (s1 : Int32) (s2 : Int32) (h : CT) (hf : pX13_cyclesAside_b36 g this p1 s0 s1 s2 h = some (r0, h0)) : J X g h 36 [(0, va_rf (some this))] [.int s2, .int s1, va_rf (some s0)] := by
  unfold pX13_cyclesAside_b36 at hf
  refine J_ior Z.1 dX13_cyclesAside_36 ?_
  replace hf := bz_i hf
  obtain ⟨z1, hf⟩ := hf
  replace hf := tg_i hf
  obtain ⟨t2, hf⟩ := hf
  refine J_putI Z.1 dX13_cyclesAside_37 fl_X13_595 (fun q => by cases q) t2 (z_n z1) (z_f z1) (congrArg Value.int (hI_s _ _ _ _)) ?_
  refine J_th (fun h3 eh3 => ?_)
  replace hf := lt_i hf h3 eh3
  refine J_aload_n Z.1 0 dX13_cyclesAside_40 rfl rfl ?_
  refine J_iconst Z.1 (v := 5) (by decide) dX13_cyclesAside_41 ?_
  refine J_iconst Z.1 (v := 0) (by decide) dX13_cyclesAside_42 ?_
  replace hf := bd_i hf
  obtain ⟨h4, q5, hf⟩ := hf
  refine J_callV (ci := 11) (as := [.int 5, .int 0]) (rest := []) (sy := []) Z.1 dX13_cyclesAside_43 cw_X13_589 (pX13_copy_ok G (dk - 1) (by omega) q5) rfl rfl t0 (zG Z) rfl (by decide) (zF Z (by omega)) (zO Z (by omega) (by decide)) (zM _) Z.2.1 Z.2.1 rfl rfl ?_
  refine J_aload_n Z.1 0 dX13_cyclesAside_46 rfl rfl ?_
  refine J_get (v := .int (hI h4 this 34)) Z.1 dX13_cyclesAside_47 fl_X13_366 t0 rfl ?_
  cases hf
  exact J_iret Z.1 Z.2.2.2.2.2 dX13_cyclesAside_50
def pX13_cyclesAside_b15 (g : MT) (this : Nat) (p1 : Int32) (h : CT) : Option ((Int32) × CT) := bd (pX13_runs g h this) fun h1 => (if (hI h1 this 37) ≤ 0 then pX13_cyclesAside_b36 g this p1  this (hI h1 this 51) 0 h1 else pX13_cyclesAside_b36 g this p1  this (hI h1 this 51) 1 h1)
set_option maxRecDepth 10000 in
set_option maxHeartbeats 4000000 in
theorem pX13_cyclesAside_b15_ok {X : Cx} {G : Gx} {dk : Nat} {g : MT} {r0 : Int32} {h0 : CT} {this : Nat} {p1 : Int32} (Z : Zx X G cX13_cyclesAside RX13 2 dk (some .int) (some (.int r0)) g h0) (hK : 128 ≤ dk) (t0 : gT g this = 12) (h : CT) (hf : pX13_cyclesAside_b15 g this p1 h = some (r0, h0)) : J X g h 15 [(0, va_rf (some this))] [] := by
  unfold pX13_cyclesAside_b15 at hf
  refine J_aload_n Z.1 0 dX13_cyclesAside_15 rfl rfl ?_
  replace hf := bd_i hf
  obtain ⟨h1, q2, hf⟩ := hf
  refine J_callV (ci := 11) (as := []) (rest := []) (sy := []) Z.1 dX13_cyclesAside_16 cw_X13_535 (pX13_runs_ok G (dk - 1) (by omega) q2) rfl rfl t0 (zG Z) rfl (by decide) (zF Z (by omega)) (zO Z (by omega) (by decide)) (zM _) Z.2.1 Z.2.1 rfl rfl ?_
  refine J_aload_n Z.1 0 dX13_cyclesAside_19 rfl rfl ?_
  refine J_dup Z.1 dX13_cyclesAside_20 rfl ?_
  refine J_get (v := .int (hI h1 this 51)) Z.1 dX13_cyclesAside_21 fl_X13_595 t0 rfl ?_
  refine J_aload_n Z.1 0 dX13_cyclesAside_24 rfl rfl ?_
  refine J_get (v := .int (hI h1 this 37)) Z.1 dX13_cyclesAside_25 fl_X13_369 t0 rfl ?_
  refine J_if_le Z.1 35 dX13_cyclesAside_28 (by decide) (fun c3 => ?_) (fun c3 => ?_)
  · rw [if_pos c3] at hf
    refine J_iconst Z.1 (v := 0) (by decide) dX13_cyclesAside_35 ?_
    exact pX13_cyclesAside_b36_ok Z hK t0  _ _ _ _ hf
  · rw [if_neg c3] at hf
    refine J_iconst Z.1 (v := 1) (by decide) dX13_cyclesAside_31 ?_
    refine J_goto Z.1 36 dX13_cyclesAside_32 (by decide) ?_
    exact pX13_cyclesAside_b36_ok Z hK t0  _ _ _ _ hf
def pX13_cyclesAside (g : MT) (h : CT) (this : Nat) (p1 : Int32) : Option ((Int32) × CT) := tg g this 12 (bd (pX13_copy g h this 0 5) fun h1 => (if p1 < 0 then pX13_cyclesAside_b15 g this p1  h1 else bd (pX13_exchanges g h1 this p1) fun h4 => (pX13_cyclesAside_b15 g this p1  h4)))
set_option maxRecDepth 10000 in
set_option maxHeartbeats 4000000 in
theorem pX13_cyclesAside_ok (G : Gx) (dk : Nat) (hK : 128 ≤ dk) {g : MT} {h h0 : CT} {this : Nat} {p1 : Int32} {r0 : Int32} (hf : pX13_cyclesAside g h this p1 = some (r0, h0)) : Ctr G dk yX13_cyclesAside cX13_cyclesAside 2 (some .int) [va_rf (some this), .int p1] g h (some (.int r0)) g h0 := by
  refine Ctr.ofZ (lv := [(0, va_rf (some this)), (1, .int p1)]) (by decide +kernel) (by simp [cat_i, cat_l, cat_d, cat_rf]) rfl fun X Z => ?_
  unfold pX13_cyclesAside at hf
  replace hf := tg_i hf
  obtain ⟨t0, hf⟩ := hf
  refine J_aload_n Z.1 0 dX13_cyclesAside_0 rfl rfl ?_
  refine J_iconst Z.1 (v := 0) (by decide) dX13_cyclesAside_1 ?_
  refine J_iconst Z.1 (v := 5) (by decide) dX13_cyclesAside_2 ?_
  replace hf := bd_i hf
  obtain ⟨h1, q2, hf⟩ := hf
  refine J_callV (ci := 11) (as := [.int 0, .int 5]) (rest := []) (sy := []) Z.1 dX13_cyclesAside_3 cw_X13_589 (pX13_copy_ok G (dk - 1) (by omega) q2) rfl rfl t0 (zG Z) rfl (by decide) (zF Z (by omega)) (zO Z (by omega) (by decide)) (zM _) Z.2.1 Z.2.1 rfl rfl ?_
  refine J_iload_n Z.1 1 dX13_cyclesAside_6 rfl rfl ?_
  refine J_if_lt Z.1 15 dX13_cyclesAside_7 (by decide) (fun c3 => ?_) (fun c3 => ?_)
  · rw [if_pos c3] at hf
    refine J_lv [0] rfl ?_
    exact pX13_cyclesAside_b15_ok Z hK t0  _ hf
  · rw [if_neg c3] at hf
    refine J_aload_n Z.1 0 dX13_cyclesAside_10 rfl rfl ?_
    refine J_iload_n Z.1 1 dX13_cyclesAside_11 rfl rfl ?_
    replace hf := bd_i hf
    obtain ⟨h4, q5, hf⟩ := hf
    refine J_callV (ci := 11) (as := [.int p1]) (rest := []) (sy := []) Z.1 dX13_cyclesAside_12 cw_X13_592 (pX13_exchanges_ok G (dk - 1) (by omega) q5) rfl rfl t0 (zG Z) rfl (by decide) (zF Z (by omega)) (zO Z (by omega) (by decide)) (zM _) Z.2.1 Z.2.1 rfl rfl ?_
    refine J_lv [0] rfl ?_
    exact pX13_cyclesAside_b15_ok Z hK t0  _ hf
theorem dX13_gainOf_0 : decode cX13_gainOf 0 = .ok (.aload_n 0, 1) := by decide +kernel
theorem dX13_gainOf_1 : decode cX13_gainOf 1 = .ok (.aload_n 0, 1) := by decide +kernel
theorem dX13_gainOf_2 : decode cX13_gainOf 2 = .ok (.iload_n 1, 1) := by decide +kernel
theorem dX13_gainOf_3 : decode cX13_gainOf 3 = .ok (.invokevirtual 598, 3) := by decide +kernel
theorem dX13_gainOf_6 : decode cX13_gainOf 6 = .ok (.putfield 74, 3) := by decide +kernel
theorem dX13_gainOf_9 : decode cX13_gainOf 9 = .ok (.aload_n 0, 1) := by decide +kernel
theorem dX13_gainOf_10 : decode cX13_gainOf 10 = .ok (.getfield 74, 3) := by decide +kernel
theorem dX13_gainOf_13 : decode cX13_gainOf 13 = .ok (.ifCond .le 5, 3) := by decide +kernel
theorem dX13_gainOf_16 : decode cX13_gainOf 16 = .ok (.iconst (-1), 1) := by decide +kernel
theorem dX13_gainOf_17 : decode cX13_gainOf 17 = .ok (.ireturn, 1) := by decide +kernel
theorem dX13_gainOf_18 : decode cX13_gainOf 18 = .ok (.aload_n 0, 1) := by decide +kernel
theorem dX13_gainOf_19 : decode cX13_gainOf 19 = .ok (.iconst 0, 1) := by decide +kernel
theorem dX13_gainOf_20 : decode cX13_gainOf 20 = .ok (.putfield 595, 3) := by decide +kernel
theorem dX13_gainOf_23 : decode cX13_gainOf 23 = .ok (.aload_n 0, 1) := by decide +kernel
theorem dX13_gainOf_24 : decode cX13_gainOf 24 = .ok (.iconst (-1), 1) := by decide +kernel
theorem dX13_gainOf_25 : decode cX13_gainOf 25 = .ok (.invokevirtual 601, 3) := by decide +kernel
theorem dX13_gainOf_28 : decode cX13_gainOf 28 = .ok (.istore_n 2, 1) := by decide +kernel
theorem dX13_gainOf_29 : decode cX13_gainOf 29 = .ok (.aload_n 0, 1) := by decide +kernel
theorem dX13_gainOf_30 : decode cX13_gainOf 30 = .ok (.iload_n 1, 1) := by decide +kernel
theorem dX13_gainOf_31 : decode cX13_gainOf 31 = .ok (.invokevirtual 601, 3) := by decide +kernel
theorem dX13_gainOf_34 : decode cX13_gainOf 34 = .ok (.istore_n 3, 1) := by decide +kernel
theorem dX13_gainOf_35 : decode cX13_gainOf 35 = .ok (.aload_n 0, 1) := by decide +kernel
theorem dX13_gainOf_36 : decode cX13_gainOf 36 = .ok (.getfield 595, 3) := by decide +kernel
theorem dX13_gainOf_39 : decode cX13_gainOf 39 = .ok (.ifCond .eq 12, 3) := by decide +kernel
theorem dX13_gainOf_42 : decode cX13_gainOf 42 = .ok (.aload_n 0, 1) := by decide +kernel
theorem dX13_gainOf_43 : decode cX13_gainOf 43 = .ok (.bipush 12, 2) := by decide +kernel
theorem dX13_gainOf_45 : decode cX13_gainOf 45 = .ok (.invokevirtual 268, 3) := by decide +kernel
theorem dX13_gainOf_48 : decode cX13_gainOf 48 = .ok (.goto 6, 3) := by decide +kernel
theorem dX13_gainOf_51 : decode cX13_gainOf 51 = .ok (.iload_n 2, 1) := by decide +kernel
theorem dX13_gainOf_52 : decode cX13_gainOf 52 = .ok (.iload_n 3, 1) := by decide +kernel
theorem dX13_gainOf_53 : decode cX13_gainOf 53 = .ok (.isub, 1) := by decide +kernel
theorem dX13_gainOf_54 : decode cX13_gainOf 54 = .ok (.ireturn, 1) := by decide +kernel
def pX13_gainOf (g : MT) (h : CT) (this : Nat) (p1 : Int32) : Option ((Int32) × CT) := tg g this 12 (bd (pX13_whyNoSwap g h this p1) fun x1 => (lt (sI h this 0 x1) fun h3 => (if (hI h3 this 0) ≤ 0 then lt (sI h3 this 51 0) fun h5 => (bd2 (pX13_cyclesAside g h5 this (-1)) fun x8 h6 => (bd2 (pX13_cyclesAside g h6 this p1) fun x11 h9 => (if (hI h9 this 51) = 0 then some ((x8 - x11), h9) else bd2 (pX13_refuse g h9 this 12) fun x15 h13 => (some (x15, h13))))) else some ((-1), h3))))
set_option maxRecDepth 10000 in
set_option maxHeartbeats 4000000 in
theorem pX13_gainOf_ok (G : Gx) (dk : Nat) (hK : 129 ≤ dk) {g : MT} {h h0 : CT} {this : Nat} {p1 : Int32} {r0 : Int32} (hf : pX13_gainOf g h this p1 = some (r0, h0)) : Ctr G dk yX13_gainOf cX13_gainOf 4 (some .int) [va_rf (some this), .int p1] g h (some (.int r0)) g h0 := by
  refine Ctr.ofZ (lv := [(0, va_rf (some this)), (1, .int p1)]) (by decide +kernel) (by simp [cat_i, cat_l, cat_d, cat_rf]) rfl fun X Z => ?_
  unfold pX13_gainOf at hf
  replace hf := tg_i hf
  obtain ⟨t0, hf⟩ := hf
  refine J_aload_n Z.1 0 dX13_gainOf_0 rfl rfl ?_
  refine J_aload_n Z.1 0 dX13_gainOf_1 rfl rfl ?_
  refine J_iload_n Z.1 1 dX13_gainOf_2 rfl rfl ?_
  replace hf := bd_i hf
  obtain ⟨x1, q2, hf⟩ := hf
  refine J_callV (ci := 11) (as := [.int p1]) (rest := [va_rf (some this)]) (sy := [.int x1, va_rf (some this)]) Z.1 dX13_gainOf_3 cw_X13_598 (pX13_whyNoSwap_ok G (dk - 1) (by omega) q2) rfl rfl t0 (zG Z) rfl (by simp [cat_i, cat_l, cat_d, cat_rf]) (zF Z (by omega)) (zO Z (by omega) (by decide)) (zM _) Z.2.1 Z.2.1 rfl rfl ?_
  refine J_putI Z.1 dX13_gainOf_6 fl_X13_74 (fun q => by cases q) t0 rfl rfl (congrArg Value.int (hI_s _ _ _ _)) ?_
  refine J_th (fun h3 eh3 => ?_)
  replace hf := lt_i hf h3 eh3
  refine J_aload_n Z.1 0 dX13_gainOf_9 rfl rfl ?_
  refine J_get (v := .int (hI h3 this 0)) Z.1 dX13_gainOf_10 fl_X13_74 t0 rfl ?_
  refine J_if_le Z.1 18 dX13_gainOf_13 (by decide) (fun c4 => ?_) (fun c4 => ?_)
  · rw [if_pos c4] at hf
    refine J_aload_n Z.1 0 dX13_gainOf_18 rfl rfl ?_
    refine J_iconst Z.1 (v := 0) (by decide) dX13_gainOf_19 ?_
    refine J_putI Z.1 dX13_gainOf_20 fl_X13_595 (fun q => by cases q) t0 (z_n (Or.inl rfl)) (z_f (Or.inl rfl)) (congrArg Value.int (hI_s _ _ _ _)) ?_
    refine J_th (fun h5 eh5 => ?_)
    replace hf := lt_i hf h5 eh5
    refine J_aload_n Z.1 0 dX13_gainOf_23 rfl rfl ?_
    refine J_iconst Z.1 (v := (-1)) (by decide) dX13_gainOf_24 ?_
    replace hf := bd2_i hf
    obtain ⟨x8, h6, q7, hf⟩ := hf
    refine J_callV (ci := 11) (as := [.int (-1)]) (rest := []) (sy := [.int x8]) Z.1 dX13_gainOf_25 cw_X13_601 (pX13_cyclesAside_ok G (dk - 1) (by omega) q7) rfl rfl t0 (zG Z) rfl (by decide) (zF Z (by omega)) (zO Z (by omega) (by decide)) (zM _) Z.2.1 Z.2.1 rfl rfl ?_
    refine J_istore_n Z.1 (lv2 := [(2, .int x8), (0, va_rf (some this)), (1, .int p1)]) dX13_gainOf_28 rfl (zL Z (by decide)) rfl ?_
    refine J_aload_n Z.1 1 dX13_gainOf_29 rfl rfl ?_
    refine J_iload_n Z.1 2 dX13_gainOf_30 rfl rfl ?_
    replace hf := bd2_i hf
    obtain ⟨x11, h9, q10, hf⟩ := hf
    refine J_callV (ci := 11) (as := [.int p1]) (rest := []) (sy := [.int x11]) Z.1 dX13_gainOf_31 cw_X13_601 (pX13_cyclesAside_ok G (dk - 1) (by omega) q10) rfl rfl t0 (zG Z) rfl (by decide) (zF Z (by omega)) (zO Z (by omega) (by decide)) (zM _) Z.2.1 Z.2.1 rfl rfl ?_
    refine J_istore_n Z.1 (lv2 := [(3, .int x11), (2, .int x8), (0, va_rf (some this)), (1, .int p1)]) dX13_gainOf_34 rfl (zL Z (by decide)) rfl ?_
    refine J_aload_n Z.1 2 dX13_gainOf_35 rfl rfl ?_
    refine J_get (v := .int (hI h9 this 51)) Z.1 dX13_gainOf_36 fl_X13_595 t0 rfl ?_
    refine J_if_eq Z.1 51 dX13_gainOf_39 (by decide) (fun c12 => ?_) (fun c12 => ?_)
    · rw [if_pos c12] at hf
      refine J_iload_n Z.1 1 dX13_gainOf_51 rfl rfl ?_
      refine J_iload_n Z.1 0 dX13_gainOf_52 rfl rfl ?_
      refine J_isub Z.1 dX13_gainOf_53 ?_
      cases hf
      exact J_iret Z.1 Z.2.2.2.2.2 dX13_gainOf_54
    · rw [if_neg c12] at hf
      refine J_aload_n Z.1 2 dX13_gainOf_42 rfl rfl ?_
      refine J_bipush Z.1 (v := 12) (by decide) dX13_gainOf_43 ?_
      replace hf := bd2_i hf
      obtain ⟨x15, h13, q14, hf⟩ := hf
      refine J_callV (ci := 11) (as := [.int 12]) (rest := []) (sy := [.int x15]) Z.1 dX13_gainOf_45 cw_X13_268 (pX13_refuse_ok G (dk - 1) (by omega) q14) rfl rfl t0 (zG Z) rfl (by decide) (zF Z (by omega)) (zO Z (by omega) (by decide)) (zM _) Z.2.1 Z.2.1 rfl rfl ?_
      refine J_goto Z.1 54 dX13_gainOf_48 (by decide) ?_
      cases hf
      exact J_iret Z.1 Z.2.2.2.2.2 dX13_gainOf_54
  · rw [if_neg c4] at hf
    refine J_iconst Z.1 (v := (-1)) (by decide) dX13_gainOf_16 ?_
    cases hf
    exact J_iret Z.1 Z.2.2.2.2.2 dX13_gainOf_17
theorem dX13_swapGain_0 : decode cX13_swapGain 0 = .ok (.aload_n 0, 1) := by decide +kernel
theorem dX13_swapGain_1 : decode cX13_swapGain 1 = .ok (.iconst 0, 1) := by decide +kernel
theorem dX13_swapGain_2 : decode cX13_swapGain 2 = .ok (.putfield 71, 3) := by decide +kernel
theorem dX13_swapGain_5 : decode cX13_swapGain 5 = .ok (.aload_n 0, 1) := by decide +kernel
theorem dX13_swapGain_6 : decode cX13_swapGain 6 = .ok (.iload_n 1, 1) := by decide +kernel
theorem dX13_swapGain_7 : decode cX13_swapGain 7 = .ok (.invokevirtual 604, 3) := by decide +kernel
theorem dX13_swapGain_10 : decode cX13_swapGain 10 = .ok (.ireturn, 1) := by decide +kernel
def pX13_swapGain (g : MT) (h : CT) (this : Nat) (p1 : Int32) : Option ((Int32) × CT) := tg g this 12 (lt (sI h this 1 0) fun h1 => (bd2 (pX13_gainOf g h1 this p1) fun x4 h2 => (some (x4, h2))))
set_option maxRecDepth 10000 in
set_option maxHeartbeats 4000000 in
theorem pX13_swapGain_ok (G : Gx) (dk : Nat) (hK : 130 ≤ dk) {g : MT} {h h0 : CT} {this : Nat} {p1 : Int32} {r0 : Int32} (hf : pX13_swapGain g h this p1 = some (r0, h0)) : Ctr G dk yX13_swapGain cX13_swapGain 2 (some .int) [va_rf (some this), .int p1] g h (some (.int r0)) g h0 := by
  refine Ctr.ofZ (lv := [(0, va_rf (some this)), (1, .int p1)]) (by decide +kernel) (by simp [cat_i, cat_l, cat_d, cat_rf]) rfl fun X Z => ?_
  unfold pX13_swapGain at hf
  replace hf := tg_i hf
  obtain ⟨t0, hf⟩ := hf
  refine J_aload_n Z.1 0 dX13_swapGain_0 rfl rfl ?_
  refine J_iconst Z.1 (v := 0) (by decide) dX13_swapGain_1 ?_
  refine J_putI Z.1 dX13_swapGain_2 fl_X13_71 (fun q => by cases q) t0 rfl rfl (congrArg Value.int (hI_s _ _ _ _)) ?_
  refine J_th (fun h1 eh1 => ?_)
  replace hf := lt_i hf h1 eh1
  refine J_aload_n Z.1 0 dX13_swapGain_5 rfl rfl ?_
  refine J_iload_n Z.1 1 dX13_swapGain_6 rfl rfl ?_
  replace hf := bd2_i hf
  obtain ⟨x4, h2, q3, hf⟩ := hf
  refine J_callV (ci := 11) (as := [.int p1]) (rest := []) (sy := [.int x4]) Z.1 dX13_swapGain_7 cw_X13_604 (pX13_gainOf_ok G (dk - 1) (by omega) q3) rfl rfl t0 (zG Z) rfl (by decide) (zF Z (by omega)) (zO Z (by omega) (by decide)) (zM _) Z.2.1 Z.2.1 rfl rfl ?_
  cases hf
  exact J_iret Z.1 Z.2.2.2.2.2 dX13_swapGain_10
theorem dX13_bestSwap_0 : decode cX13_bestSwap 0 = .ok (.aload_n 0, 1) := by decide +kernel
theorem dX13_bestSwap_1 : decode cX13_bestSwap 1 = .ok (.iconst 0, 1) := by decide +kernel
theorem dX13_bestSwap_2 : decode cX13_bestSwap 2 = .ok (.putfield 71, 3) := by decide +kernel
theorem dX13_bestSwap_5 : decode cX13_bestSwap 5 = .ok (.iconst (-1), 1) := by decide +kernel
theorem dX13_bestSwap_6 : decode cX13_bestSwap 6 = .ok (.istore_n 1, 1) := by decide +kernel
theorem dX13_bestSwap_7 : decode cX13_bestSwap 7 = .ok (.iconst 0, 1) := by decide +kernel
theorem dX13_bestSwap_8 : decode cX13_bestSwap 8 = .ok (.istore_n 2, 1) := by decide +kernel
theorem dX13_bestSwap_9 : decode cX13_bestSwap 9 = .ok (.iconst 0, 1) := by decide +kernel
theorem dX13_bestSwap_10 : decode cX13_bestSwap 10 = .ok (.istore_n 3, 1) := by decide +kernel
theorem dX13_bestSwap_11 : decode cX13_bestSwap 11 = .ok (.iload_n 3, 1) := by decide +kernel
theorem dX13_bestSwap_12 : decode cX13_bestSwap 12 = .ok (.aload_n 0, 1) := by decide +kernel
theorem dX13_bestSwap_13 : decode cX13_bestSwap 13 = .ok (.getfield 31, 3) := by decide +kernel
theorem dX13_bestSwap_16 : decode cX13_bestSwap 16 = .ok (.iconst 5, 1) := by decide +kernel
theorem dX13_bestSwap_17 : decode cX13_bestSwap 17 = .ok (.iaload, 1) := by decide +kernel
theorem dX13_bestSwap_18 : decode cX13_bestSwap 18 = .ok (.if_icmp .ge 37, 3) := by decide +kernel
theorem dX13_bestSwap_21 : decode cX13_bestSwap 21 = .ok (.aload_n 0, 1) := by decide +kernel
theorem dX13_bestSwap_22 : decode cX13_bestSwap 22 = .ok (.iload_n 3, 1) := by decide +kernel
theorem dX13_bestSwap_23 : decode cX13_bestSwap 23 = .ok (.invokevirtual 604, 3) := by decide +kernel
theorem dX13_bestSwap_26 : decode cX13_bestSwap 26 = .ok (.istore 4, 2) := by decide +kernel
theorem dX13_bestSwap_28 : decode cX13_bestSwap 28 = .ok (.aload_n 0, 1) := by decide +kernel
theorem dX13_bestSwap_29 : decode cX13_bestSwap 29 = .ok (.getfield 74, 3) := by decide +kernel
theorem dX13_bestSwap_32 : decode cX13_bestSwap 32 = .ok (.ifCond .gt 17, 3) := by decide +kernel
theorem dX13_bestSwap_35 : decode cX13_bestSwap 35 = .ok (.iload 4, 2) := by decide +kernel
theorem dX13_bestSwap_37 : decode cX13_bestSwap 37 = .ok (.iload_n 2, 1) := by decide +kernel
theorem dX13_bestSwap_38 : decode cX13_bestSwap 38 = .ok (.if_icmp .gt 6, 3) := by decide +kernel
theorem dX13_bestSwap_41 : decode cX13_bestSwap 41 = .ok (.goto 8, 3) := by decide +kernel
theorem dX13_bestSwap_44 : decode cX13_bestSwap 44 = .ok (.iload 4, 2) := by decide +kernel
theorem dX13_bestSwap_46 : decode cX13_bestSwap 46 = .ok (.istore_n 2, 1) := by decide +kernel
theorem dX13_bestSwap_47 : decode cX13_bestSwap 47 = .ok (.iload_n 3, 1) := by decide +kernel
theorem dX13_bestSwap_48 : decode cX13_bestSwap 48 = .ok (.istore_n 1, 1) := by decide +kernel
theorem dX13_bestSwap_49 : decode cX13_bestSwap 49 = .ok (.iinc 3 1, 3) := by decide +kernel
theorem dX13_bestSwap_52 : decode cX13_bestSwap 52 = .ok (.goto (-41), 3) := by decide +kernel
theorem dX13_bestSwap_55 : decode cX13_bestSwap 55 = .ok (.aload_n 0, 1) := by decide +kernel
theorem dX13_bestSwap_56 : decode cX13_bestSwap 56 = .ok (.iconst 0, 1) := by decide +kernel
theorem dX13_bestSwap_57 : decode cX13_bestSwap 57 = .ok (.putfield 74, 3) := by decide +kernel
theorem dX13_bestSwap_60 : decode cX13_bestSwap 60 = .ok (.aload_n 0, 1) := by decide +kernel
theorem dX13_bestSwap_61 : decode cX13_bestSwap 61 = .ok (.iload_n 1, 1) := by decide +kernel
theorem dX13_bestSwap_62 : decode cX13_bestSwap 62 = .ok (.invokevirtual 541, 3) := by decide +kernel
theorem dX13_bestSwap_65 : decode cX13_bestSwap 65 = .ok (.ireturn, 1) := by decide +kernel
def pX13_bestSwap_b49 (g : MT) (this : Nat) (k11 : Int32 → Int32 → Int32 → CT → Option ((Int32) × CT)) (l1 : Int32) (l2 : Int32) (l3 : Int32) (h : CT) : Option ((Int32) × CT) := lt (l3 + 1) fun x1 => (k11 l1 l2 x1 h)
set_option maxRecDepth 10000 in
set_option maxHeartbeats 4000000 in
theorem pX13_bestSwap_b49_ok {X : Cx} {G : Gx} {dk : Nat} {g : MT} {r0 : Int32} {h0 : CT} {this : Nat} {k11 : Int32 → Int32 → Int32 → CT → Option ((Int32) × CT)} (Z : Zx X G cX13_bestSwap RX13 5 dk (some .int) (some (.int r0)) g h0) (hK : 130 ≤ dk) (t0 : gT g this = 12) (hk11 : ∀ (l1 : Int32) (l2 : Int32) (l3 : Int32) (h : CT), k11 l1 l2 l3 h = some (r0, h0) → J X g h 11 [(0, va_rf (some this)), (1, .int l1), (2, .int l2), (3, .int l3)] []) (l1 : Int32) (l2 : Int32) (l3 : Int32) (h : CT) (hf : pX13_bestSwap_b49 g this k11 l1 l2 l3 h = some (r0, h0)) : J X g h 49 [(0, va_rf (some this)), (1, .int l1), (2, .int l2), (3, .int l3)] [] := by
  unfold pX13_bestSwap_b49 at hf
  refine J_iinc Z.1 (v := 1) (lv2 := [(3, .int (l3 + 1)), (0, va_rf (some this)), (1, .int l1), (2, .int l2)]) 3 dX13_bestSwap_49 rfl (by decide) (zL Z (by decide)) rfl ?_
  obtain ⟨x1, ex1⟩ : ∃ z, z = (l3 + 1) := ⟨_, rfl⟩
  replace hf := lt_i hf x1 ex1
  rw [← ex1]
  refine J_goto Z.1 11 dX13_bestSwap_52 (by decide) ?_
  refine J_lv [1, 2, 3, 0] rfl ?_
  exact hk11 _ _ _ _ hf
def pX13_bestSwap_b11 (g : MT) (this : Nat) (k11 : Int32 → Int32 → Int32 → CT → Option ((Int32) × CT)) (l1 : Int32) (l2 : Int32) (l3 : Int32) (h : CT) : Option ((Int32) × CT) := lt (hR h this 19) fun r1 => (nn r1 fun a1 => (tg g a1 20 (ix (gL g a1) 5 (if (hI h a1 (Int32.toNatClampNeg 5)) ≤ l3 then lt (sI h this 0 0) fun h5 => (bd2 (pX13_answer g h5 this l1) fun x8 h6 => (some (x8, h6))) else bd2 (pX13_gainOf g h this l3) fun x11 h9 => (if 0 < (hI h9 this 0) then pX13_bestSwap_b49 g this k11 l1 l2 l3 h9 else if l2 < x11 then pX13_bestSwap_b49 g this k11 l3 x11 l3 h9 else pX13_bestSwap_b49 g this k11 l1 l2 l3 h9)))))
set_option maxRecDepth 10000 in
set_option maxHeartbeats 4000000 in
theorem pX13_bestSwap_b11_ok {X : Cx} {G : Gx} {dk : Nat} {g : MT} {r0 : Int32} {h0 : CT} {this : Nat} {k11 : Int32 → Int32 → Int32 → CT → Option ((Int32) × CT)} (Z : Zx X G cX13_bestSwap RX13 5 dk (some .int) (some (.int r0)) g h0) (hK : 130 ≤ dk) (t0 : gT g this = 12) (hk11 : ∀ (l1 : Int32) (l2 : Int32) (l3 : Int32) (h : CT), k11 l1 l2 l3 h = some (r0, h0) → J X g h 11 [(0, va_rf (some this)), (1, .int l1), (2, .int l2), (3, .int l3)] []) (l1 : Int32) (l2 : Int32) (l3 : Int32) (h : CT) (hf : pX13_bestSwap_b11 g this k11 l1 l2 l3 h = some (r0, h0)) : J X g h 11 [(0, va_rf (some this)), (1, .int l1), (2, .int l2), (3, .int l3)] [] := by
  unfold pX13_bestSwap_b11 at hf
  refine J_iload_n Z.1 3 dX13_bestSwap_11 rfl rfl ?_
  refine J_aload_n Z.1 0 dX13_bestSwap_12 rfl rfl ?_
  refine J_get (v := va_rf (hR h this 19)) Z.1 dX13_bestSwap_13 fl_X13_31 t0 rfl ?_
  refine J_tr (fun r1 er1 => ?_)
  replace hf := lt_i hf r1 er1
  refine J_iconst Z.1 (v := 5) (by decide) dX13_bestSwap_16 ?_
  replace hf := nn_i hf
  obtain ⟨a1, rfl, hf⟩ := hf
  replace hf := tg_i hf
  obtain ⟨t2, hf⟩ := hf
  replace hf := ix_i hf
  obtain ⟨i3, hf⟩ := hf
  refine J_iaload Z.1 dX13_bestSwap_17 t2 i3 ?_
  refine J_icmp_ge Z.1 55 dX13_bestSwap_18 (by decide) (fun c4 => ?_) (fun c4 => ?_)
  · rw [if_pos c4] at hf
    refine J_aload_n Z.1 0 dX13_bestSwap_55 rfl rfl ?_
    refine J_iconst Z.1 (v := 0) (by decide) dX13_bestSwap_56 ?_
    refine J_putI Z.1 dX13_bestSwap_57 fl_X13_74 (fun q => by cases q) t0 rfl rfl (congrArg Value.int (hI_s _ _ _ _)) ?_
    refine J_th (fun h5 eh5 => ?_)
    replace hf := lt_i hf h5 eh5
    refine J_aload_n Z.1 0 dX13_bestSwap_60 rfl rfl ?_
    refine J_iload_n Z.1 1 dX13_bestSwap_61 rfl rfl ?_
    replace hf := bd2_i hf
    obtain ⟨x8, h6, q7, hf⟩ := hf
    refine J_callV (ci := 11) (as := [.int l1]) (rest := []) (sy := [.int x8]) Z.1 dX13_bestSwap_62 cw_X13_541 (pX13_answer_ok G (dk - 1) (by omega) q7) rfl rfl t0 (zG Z) rfl (by decide) (zF Z (by omega)) (zO Z (by omega) (by decide)) (zM _) Z.2.1 Z.2.1 rfl rfl ?_
    cases hf
    exact J_iret Z.1 Z.2.2.2.2.2 dX13_bestSwap_65
  · rw [if_neg c4] at hf
    refine J_aload_n Z.1 0 dX13_bestSwap_21 rfl rfl ?_
    refine J_iload_n Z.1 3 dX13_bestSwap_22 rfl rfl ?_
    replace hf := bd2_i hf
    obtain ⟨x11, h9, q10, hf⟩ := hf
    refine J_callV (ci := 11) (as := [.int l3]) (rest := []) (sy := [.int x11]) Z.1 dX13_bestSwap_23 cw_X13_604 (pX13_gainOf_ok G (dk - 1) (by omega) q10) rfl rfl t0 (zG Z) rfl (by decide) (zF Z (by omega)) (zO Z (by omega) (by decide)) (zM _) Z.2.1 Z.2.1 rfl rfl ?_
    refine J_istore Z.1 (lv2 := [(4, .int x11), (0, va_rf (some this)), (1, .int l1), (2, .int l2), (3, .int l3)]) dX13_bestSwap_26 (zL Z (by decide)) rfl ?_
    refine J_aload_n Z.1 1 dX13_bestSwap_28 rfl rfl ?_
    refine J_get (v := .int (hI h9 this 0)) Z.1 dX13_bestSwap_29 fl_X13_74 t0 rfl ?_
    refine J_if_gt Z.1 49 dX13_bestSwap_32 (by decide) (fun c12 => ?_) (fun c12 => ?_)
    · rw [if_pos c12] at hf
      refine J_lv [1, 2, 3, 4] rfl ?_
      exact pX13_bestSwap_b49_ok Z hK t0 hk11 _ _ _ _ hf
    · rw [if_neg c12] at hf
      refine J_iload Z.1 0 dX13_bestSwap_35 rfl ?_
      refine J_iload_n Z.1 3 dX13_bestSwap_37 rfl rfl ?_
      refine J_icmp_gt Z.1 44 dX13_bestSwap_38 (by decide) (fun c13 => ?_) (fun c13 => ?_)
      · rw [if_pos c13] at hf
        refine J_iload Z.1 0 dX13_bestSwap_44 rfl ?_
        refine J_istore_n Z.1 (lv2 := [(2, .int x11), (4, .int x11), (0, va_rf (some this)), (1, .int l1), (3, .int l3)]) dX13_bestSwap_46 rfl (zL Z (by decide)) rfl ?_
        refine J_iload_n Z.1 4 dX13_bestSwap_47 rfl rfl ?_
        refine J_istore_n Z.1 (lv2 := [(1, .int l3), (2, .int x11), (4, .int x11), (0, va_rf (some this)), (3, .int l3)]) dX13_bestSwap_48 rfl (zL Z (by decide)) rfl ?_
        refine J_lv [3, 0, 1, 4] rfl ?_
        exact pX13_bestSwap_b49_ok Z hK t0 hk11 _ _ _ _ hf
      · rw [if_neg c13] at hf
        refine J_goto Z.1 49 dX13_bestSwap_41 (by decide) ?_
        refine J_lv [1, 2, 3, 4] rfl ?_
        exact pX13_bestSwap_b49_ok Z hK t0 hk11 _ _ _ _ hf
def pX13_bestSwap_l11 (g : MT) (this : Nat) : Nat → Int32 → Int32 → Int32 → CT → Option ((Int32) × CT)
  | 0, _, _, _, _ => none
  | n + 1, l1, l2, l3, h => pX13_bestSwap_b11 g this (pX13_bestSwap_l11 g this n) l1 l2 l3 h
theorem pX13_bestSwap_l11_ok {X : Cx} {G : Gx} {dk : Nat} {g : MT} {r0 : Int32} {h0 : CT} {this : Nat} (Z : Zx X G cX13_bestSwap RX13 5 dk (some .int) (some (.int r0)) g h0) (hK : 130 ≤ dk) (t0 : gT g this = 12) : ∀ (n : Nat) (l1 : Int32) (l2 : Int32) (l3 : Int32) (h : CT), pX13_bestSwap_l11 g this n l1 l2 l3 h = some (r0, h0) → J X g h 11 [(0, va_rf (some this)), (1, .int l1), (2, .int l2), (3, .int l3)] [] := by
  intro n
  induction n with
  | zero => intro l1 l2 l3 h hf; cases hf
  | succ n ih => intro l1 l2 l3 h hf; exact pX13_bestSwap_b11_ok Z hK t0 ih l1 l2 l3 h hf
def pX13_bestSwap (g : MT) (h : CT) (this : Nat) : Option ((Int32) × CT) := tg g this 12 (lt (sI h this 1 0) fun h1 => (pX13_bestSwap_l11 g this  FUEL (-1) 0 0 h1))
set_option maxRecDepth 10000 in
set_option maxHeartbeats 4000000 in
theorem pX13_bestSwap_ok (G : Gx) (dk : Nat) (hK : 130 ≤ dk) {g : MT} {h h0 : CT} {this : Nat} {r0 : Int32} (hf : pX13_bestSwap g h this = some (r0, h0)) : Ctr G dk yX13_bestSwap cX13_bestSwap 5 (some .int) [va_rf (some this)] g h (some (.int r0)) g h0 := by
  refine Ctr.ofZ (lv := [(0, va_rf (some this))]) (by decide +kernel) (by simp [cat_i, cat_l, cat_d, cat_rf]) rfl fun X Z => ?_
  unfold pX13_bestSwap at hf
  replace hf := tg_i hf
  obtain ⟨t0, hf⟩ := hf
  refine J_aload_n Z.1 0 dX13_bestSwap_0 rfl rfl ?_
  refine J_iconst Z.1 (v := 0) (by decide) dX13_bestSwap_1 ?_
  refine J_putI Z.1 dX13_bestSwap_2 fl_X13_71 (fun q => by cases q) t0 rfl rfl (congrArg Value.int (hI_s _ _ _ _)) ?_
  refine J_th (fun h1 eh1 => ?_)
  replace hf := lt_i hf h1 eh1
  refine J_iconst Z.1 (v := (-1)) (by decide) dX13_bestSwap_5 ?_
  refine J_istore_n Z.1 (lv2 := [(1, .int (-1)), (0, va_rf (some this))]) dX13_bestSwap_6 rfl (zL Z (by decide)) rfl ?_
  refine J_iconst Z.1 (v := 0) (by decide) dX13_bestSwap_7 ?_
  refine J_istore_n Z.1 (lv2 := [(2, .int 0), (1, .int (-1)), (0, va_rf (some this))]) dX13_bestSwap_8 rfl (zL Z (by decide)) rfl ?_
  refine J_iconst Z.1 (v := 0) (by decide) dX13_bestSwap_9 ?_
  refine J_istore_n Z.1 (lv2 := [(3, .int 0), (2, .int 0), (1, .int (-1)), (0, va_rf (some this))]) dX13_bestSwap_10 rfl (zL Z (by decide)) rfl ?_
  refine J_lv [3, 2, 1, 0] rfl ?_
  exact pX13_bestSwap_l11_ok Z hK t0  FUEL _ _ _ _ hf
