/-! written by wip/whole/gen.py out of the printed bytecode -/
theorem dX13_strips_0 : decode cX13_strips 0 = .ok (.aload_n 0, 1) := by decide +kernel
theorem dX13_strips_1 : decode cX13_strips 1 = .ok (.getfield 31, 3) := by decide +kernel
theorem dX13_strips_4 : decode cX13_strips 4 = .ok (.iconst 0, 1) := by decide +kernel
theorem dX13_strips_5 : decode cX13_strips 5 = .ok (.iaload, 1) := by decide +kernel
theorem dX13_strips_6 : decode cX13_strips 6 = .ok (.istore_n 2, 1) := by decide +kernel
theorem dX13_strips_7 : decode cX13_strips 7 = .ok (.aload_n 0, 1) := by decide +kernel
theorem dX13_strips_8 : decode cX13_strips 8 = .ok (.iload_n 1, 1) := by decide +kernel
theorem dX13_strips_9 : decode cX13_strips 9 = .ok (.iconst 4, 1) := by decide +kernel
theorem dX13_strips_10 : decode cX13_strips 10 = .ok (.invokevirtual 381, 3) := by decide +kernel
theorem dX13_strips_13 : decode cX13_strips 13 = .ok (.istore_n 3, 1) := by decide +kernel
theorem dX13_strips_14 : decode cX13_strips 14 = .ok (.aload_n 0, 1) := by decide +kernel
theorem dX13_strips_15 : decode cX13_strips 15 = .ok (.iconst 0, 1) := by decide +kernel
theorem dX13_strips_16 : decode cX13_strips 16 = .ok (.putfield 418, 3) := by decide +kernel
theorem dX13_strips_19 : decode cX13_strips 19 = .ok (.iload_n 3, 1) := by decide +kernel
theorem dX13_strips_20 : decode cX13_strips 20 = .ok (.ifCond .le 78, 3) := by decide +kernel
theorem dX13_strips_23 : decode cX13_strips 23 = .ok (.aload_n 0, 1) := by decide +kernel
theorem dX13_strips_24 : decode cX13_strips 24 = .ok (.getfield 378, 3) := by decide +kernel
theorem dX13_strips_27 : decode cX13_strips 27 = .ok (.ifCond .ne 71, 3) := by decide +kernel
theorem dX13_strips_30 : decode cX13_strips 30 = .ok (.aload_n 0, 1) := by decide +kernel
theorem dX13_strips_31 : decode cX13_strips 31 = .ok (.getfield 31, 3) := by decide +kernel
theorem dX13_strips_34 : decode cX13_strips 34 = .ok (.iconst 0, 1) := by decide +kernel
theorem dX13_strips_35 : decode cX13_strips 35 = .ok (.bipush 16, 2) := by decide +kernel
theorem dX13_strips_37 : decode cX13_strips 37 = .ok (.iload_n 3, 1) := by decide +kernel
theorem dX13_strips_38 : decode cX13_strips 38 = .ok (.invokestatic 527, 3) := by decide +kernel
theorem dX13_strips_41 : decode cX13_strips 41 = .ok (.iastore, 1) := by decide +kernel
theorem dX13_strips_42 : decode cX13_strips 42 = .ok (.aload_n 0, 1) := by decide +kernel
theorem dX13_strips_43 : decode cX13_strips 43 = .ok (.iload_n 1, 1) := by decide +kernel
theorem dX13_strips_44 : decode cX13_strips 44 = .ok (.iconst 1, 1) := by decide +kernel
theorem dX13_strips_45 : decode cX13_strips 45 = .ok (.iadd, 1) := by decide +kernel
theorem dX13_strips_46 : decode cX13_strips 46 = .ok (.aload_n 0, 1) := by decide +kernel
theorem dX13_strips_47 : decode cX13_strips 47 = .ok (.iload_n 1, 1) := by decide +kernel
theorem dX13_strips_48 : decode cX13_strips 48 = .ok (.bipush 7, 2) := by decide +kernel
theorem dX13_strips_50 : decode cX13_strips 50 = .ok (.invokevirtual 381, 3) := by decide +kernel
theorem dX13_strips_53 : decode cX13_strips 53 = .ok (.invokevirtual 529, 3) := by decide +kernel
theorem dX13_strips_56 : decode cX13_strips 56 = .ok (.aload_n 0, 1) := by decide +kernel
theorem dX13_strips_57 : decode cX13_strips 57 = .ok (.getfield 378, 3) := by decide +kernel
theorem dX13_strips_60 : decode cX13_strips 60 = .ok (.ifCond .eq 4, 3) := by decide +kernel
theorem dX13_strips_63 : decode cX13_strips 63 = .ok (.return_, 1) := by decide +kernel
theorem dX13_strips_64 : decode cX13_strips 64 = .ok (.aload_n 0, 1) := by decide +kernel
theorem dX13_strips_65 : decode cX13_strips 65 = .ok (.aload_n 0, 1) := by decide +kernel
theorem dX13_strips_66 : decode cX13_strips 66 = .ok (.getfield 398, 3) := by decide +kernel
theorem dX13_strips_69 : decode cX13_strips 69 = .ok (.iconst 1, 1) := by decide +kernel
theorem dX13_strips_70 : decode cX13_strips 70 = .ok (.iadd, 1) := by decide +kernel
theorem dX13_strips_71 : decode cX13_strips 71 = .ok (.aload_n 0, 1) := by decide +kernel
theorem dX13_strips_72 : decode cX13_strips 72 = .ok (.getfield 401, 3) := by decide +kernel
theorem dX13_strips_75 : decode cX13_strips 75 = .ok (.invokestatic 178, 3) := by decide +kernel
theorem dX13_strips_78 : decode cX13_strips 78 = .ok (.invokevirtual 503, 3) := by decide +kernel
theorem dX13_strips_81 : decode cX13_strips 81 = .ok (.iinc 3 (-16), 3) := by decide +kernel
theorem dX13_strips_84 : decode cX13_strips 84 = .ok (.aload_n 0, 1) := by decide +kernel
theorem dX13_strips_85 : decode cX13_strips 85 = .ok (.dup, 1) := by decide +kernel
theorem dX13_strips_86 : decode cX13_strips 86 = .ok (.getfield 418, 3) := by decide +kernel
theorem dX13_strips_89 : decode cX13_strips 89 = .ok (.bipush 16, 2) := by decide +kernel
theorem dX13_strips_91 : decode cX13_strips 91 = .ok (.iadd, 1) := by decide +kernel
theorem dX13_strips_92 : decode cX13_strips 92 = .ok (.putfield 418, 3) := by decide +kernel
theorem dX13_strips_95 : decode cX13_strips 95 = .ok (.goto (-76), 3) := by decide +kernel
theorem dX13_strips_98 : decode cX13_strips 98 = .ok (.aload_n 0, 1) := by decide +kernel
theorem dX13_strips_99 : decode cX13_strips 99 = .ok (.getfield 31, 3) := by decide +kernel
theorem dX13_strips_102 : decode cX13_strips 102 = .ok (.iconst 0, 1) := by decide +kernel
theorem dX13_strips_103 : decode cX13_strips 103 = .ok (.iload_n 2, 1) := by decide +kernel
theorem dX13_strips_104 : decode cX13_strips 104 = .ok (.iastore, 1) := by decide +kernel
theorem dX13_strips_105 : decode cX13_strips 105 = .ok (.aload_n 0, 1) := by decide +kernel
theorem dX13_strips_106 : decode cX13_strips 106 = .ok (.iconst 0, 1) := by decide +kernel
theorem dX13_strips_107 : decode cX13_strips 107 = .ok (.putfield 418, 3) := by decide +kernel
theorem dX13_strips_110 : decode cX13_strips 110 = .ok (.return_, 1) := by decide +kernel
def pX13_strips_b98 (g : MT) (fO : CT → Nat → Int32 → Int32 → Option CT) (this : Nat) (p1 : Int32) (l2 : Int32) (h : CT) : Option CT := lt (hR h this 19) fun r1 => (nn r1 fun a1 => (tg g a1 20 (ix (gL g a1) 0 (lt (sI h a1 (Int32.toNatClampNeg 0) l2) fun h4 => (lt (sI h4 this 33 0) fun h5 => (some h5))))))
set_option maxRecDepth 10000 in
set_option maxHeartbeats 4000000 in
theorem pX13_strips_b98_ok {X : Cx} {G : Gx} {dk : Nat} {g : MT} {h0 : CT} {this : Nat} {p1 : Int32} (Z : Zx X G cX13_strips RX13 4 dk none none g h0) (hK : 3 ≤ dk) {fO : CT → Nat → Int32 → Int32 → Option CT} {KO : Nat} (hO : ∀ (d : Nat), KO ≤ d → ∀ (h : CT) (this : Nat) (p1 : Int32) (p2 : Int32) (h1 : CT), fO h this p1 p2 = some h1 → Ctr G d yX13_doAll cX13_doAll 4 none [va_rf (some this), .int p1, .int p2] g h none g h1) (hKO : KO + 1 ≤ dk) (t0 : gT g this = 12) (l2 : Int32) (h : CT) (hf : pX13_strips_b98 g fO this p1 l2 h = some h0) : J X g h 98 [(0, va_rf (some this)), (2, .int l2)] [] := by
  unfold pX13_strips_b98 at hf
  refine J_aload_n Z.1 0 dX13_strips_98 rfl rfl ?_
  refine J_get (v := va_rf (hR h this 19)) Z.1 dX13_strips_99 fl_X13_31 t0 rfl ?_
  refine J_tr (fun r1 er1 => ?_)
  replace hf := lt_i hf r1 er1
  refine J_iconst Z.1 (v := 0) (by decide) dX13_strips_102 ?_
  refine J_iload_n Z.1 1 dX13_strips_103 rfl rfl ?_
  obtain ⟨a1, rfl, hf⟩ := nn_i hf
  obtain ⟨t2, hf⟩ := tg_i hf
  obtain ⟨i3, hf⟩ := ix_i hf
  refine J_iastore Z.1 dX13_strips_104 t2 i3 ?_
  refine J_th (fun h4 eh4 => ?_)
  replace hf := lt_i hf h4 eh4
  refine J_aload_n Z.1 0 dX13_strips_105 rfl rfl ?_
  refine J_iconst Z.1 (v := 0) (by decide) dX13_strips_106 ?_
  refine J_putI Z.1 dX13_strips_107 fl_X13_418 (fun q => by cases q) t0 rfl rfl (congrArg Value.int (hI_s _ _ _ _)) ?_
  refine J_th (fun h5 eh5 => ?_)
  replace hf := lt_i hf h5 eh5
  cases hf
  exact J_vret Z.1 Z.2.2.2.2.2 dX13_strips_110
def pX13_strips_b19 (g : MT) (fO : CT → Nat → Int32 → Int32 → Option CT) (this : Nat) (p1 : Int32) (k19 : Int32 → Int32 → CT → Option CT) (l2 : Int32) (l3 : Int32) (h : CT) : Option CT := if l3 ≤ 0 then pX13_strips_b98 g fO this p1  l2 h else if (hI h this 40) = 0 then lt (hR h this 19) fun r3 => (nn r3 fun a3 => (tg g a3 20 (ix (gL g a3) 0 (lt (sI h a3 (Int32.toNatClampNeg 0) (pJ9_min_7cf53 16 l3)) fun h6 => (bd (pX13_at g h6 this p1 7) fun x7 => (bd (fO h6 this (p1 + 1) x7) fun h9 => (if (hI h9 this 40) = 0 then bd (pX13_begins g h9 this (pJ9_max_7cf53 ((hI h9 this 32) + 1) (hI h9 this 31))) fun h12 => (lt (l3 + (-16)) fun x14 => (lt (sI h12 this 33 ((hI h12 this 33) + 16)) fun h15 => (k19 l2 x14 h15))) else some h9))))))) else pX13_strips_b98 g fO this p1  l2 h
set_option maxRecDepth 10000 in
set_option maxHeartbeats 4000000 in
theorem pX13_strips_b19_ok {X : Cx} {G : Gx} {dk : Nat} {g : MT} {h0 : CT} {this : Nat} {p1 : Int32} {k19 : Int32 → Int32 → CT → Option CT} (Z : Zx X G cX13_strips RX13 4 dk none none g h0) (hK : 3 ≤ dk) {fO : CT → Nat → Int32 → Int32 → Option CT} {KO : Nat} (hO : ∀ (d : Nat), KO ≤ d → ∀ (h : CT) (this : Nat) (p1 : Int32) (p2 : Int32) (h1 : CT), fO h this p1 p2 = some h1 → Ctr G d yX13_doAll cX13_doAll 4 none [va_rf (some this), .int p1, .int p2] g h none g h1) (hKO : KO + 1 ≤ dk) (t0 : gT g this = 12) (hk19 : ∀ (l2 : Int32) (l3 : Int32) (h : CT), k19 l2 l3 h = some h0 → J X g h 19 [(0, va_rf (some this)), (1, .int p1), (2, .int l2), (3, .int l3)] []) (l2 : Int32) (l3 : Int32) (h : CT) (hf : pX13_strips_b19 g fO this p1 k19 l2 l3 h = some h0) : J X g h 19 [(0, va_rf (some this)), (1, .int p1), (2, .int l2), (3, .int l3)] [] := by
  unfold pX13_strips_b19 at hf
  refine J_iload_n Z.1 3 dX13_strips_19 rfl rfl ?_
  refine J_if_le Z.1 98 dX13_strips_20 (by decide) (fun c1 => ?_) (fun c1 => ?_)
  · rw [if_pos c1] at hf
    refine J_lv [0, 2] rfl ?_
    exact pX13_strips_b98_ok Z hK hO hKO t0  _ _ hf
  · rw [if_neg c1] at hf
    refine J_aload_n Z.1 0 dX13_strips_23 rfl rfl ?_
    refine J_get (v := .int (hI h this 40)) Z.1 dX13_strips_24 fl_X13_378 t0 rfl ?_
    refine J_if_ne Z.1 98 dX13_strips_27 (by decide) (fun c2 => ?_) (fun c2 => ?_)
    · rw [if_neg c2] at hf
      refine J_lv [0, 2] rfl ?_
      exact pX13_strips_b98_ok Z hK hO hKO t0  _ _ hf
    · rw [if_pos c2] at hf
      refine J_aload_n Z.1 0 dX13_strips_30 rfl rfl ?_
      refine J_get (v := va_rf (hR h this 19)) Z.1 dX13_strips_31 fl_X13_31 t0 rfl ?_
      refine J_tr (fun r3 er3 => ?_)
      replace hf := lt_i hf r3 er3
      refine J_iconst Z.1 (v := 0) (by decide) dX13_strips_34 ?_
      refine J_bipush Z.1 (v := 16) (by decide) dX13_strips_35 ?_
      refine J_iload_n Z.1 3 dX13_strips_37 rfl rfl ?_
      refine J_callS (as := [.int 16, .int l3]) (rest := [.int 0, va_rf r3]) (sy := [.int (pJ9_min_7cf53 16 l3), .int 0, va_rf r3]) Z.1 dX13_strips_38 cw_X13_527 (pJ9_min_7cf53_ok G (dk - 1) (by omega) g h 16 l3) (zG Z) rfl (by simp [cat_i, cat_l, cat_d, cat_rf]) (zF Z (by omega)) (zO Z (by omega) (by decide)) (zM _) Z.2.1 Z.2.1 rfl rfl ?_
      obtain ⟨a3, rfl, hf⟩ := nn_i hf
      obtain ⟨t4, hf⟩ := tg_i hf
      obtain ⟨i5, hf⟩ := ix_i hf
      refine J_iastore Z.1 dX13_strips_41 t4 i5 ?_
      refine J_th (fun h6 eh6 => ?_)
      replace hf := lt_i hf h6 eh6
      refine J_aload_n Z.1 0 dX13_strips_42 rfl rfl ?_
      refine J_iload_n Z.1 1 dX13_strips_43 rfl rfl ?_
      refine J_iconst Z.1 (v := 1) (by decide) dX13_strips_44 ?_
      refine J_iadd Z.1 dX13_strips_45 ?_
      refine J_aload_n Z.1 0 dX13_strips_46 rfl rfl ?_
      refine J_iload_n Z.1 1 dX13_strips_47 rfl rfl ?_
      refine J_bipush Z.1 (v := 7) (by decide) dX13_strips_48 ?_
      obtain ⟨x7, q8, hf⟩ := bd_i hf
      refine J_callV (ci := 11) (as := [.int p1, .int 7]) (rest := [.int (p1 + 1), va_rf (some this)]) (sy := [.int x7, .int (p1 + 1), va_rf (some this)]) Z.1 dX13_strips_50 cw_X13_381 (pX13_at_ok G (dk - 1) (by omega) q8) rfl rfl t0 (zG Z) rfl (by simp [cat_i, cat_l, cat_d, cat_rf]) (zF Z (by omega)) (zO Z (by omega) (by decide)) (zM _) Z.2.1 Z.2.1 rfl rfl ?_
      obtain ⟨h9, q10, hf⟩ := bd_i hf
      refine J_callV (ci := 11) (as := [.int (p1 + 1), .int x7]) (rest := []) (sy := []) Z.1 dX13_strips_53 cw_X13_529 (hO (dk - 1) (by omega) _ _ _ _ _ q10) rfl rfl t0 (zG Z) rfl (by decide) (zF Z (by omega)) (zO Z (by omega) (by decide)) (zM _) Z.2.1 Z.2.1 rfl rfl ?_
      refine J_aload_n Z.1 0 dX13_strips_56 rfl rfl ?_
      refine J_get (v := .int (hI h9 this 40)) Z.1 dX13_strips_57 fl_X13_378 t0 rfl ?_
      refine J_if_eq Z.1 64 dX13_strips_60 (by decide) (fun c11 => ?_) (fun c11 => ?_)
      · rw [if_pos c11] at hf
        refine J_aload_n Z.1 0 dX13_strips_64 rfl rfl ?_
        refine J_aload_n Z.1 0 dX13_strips_65 rfl rfl ?_
        refine J_get (v := .int (hI h9 this 32)) Z.1 dX13_strips_66 fl_X13_398 t0 rfl ?_
        refine J_iconst Z.1 (v := 1) (by decide) dX13_strips_69 ?_
        refine J_iadd Z.1 dX13_strips_70 ?_
        refine J_aload_n Z.1 0 dX13_strips_71 rfl rfl ?_
        refine J_get (v := .int (hI h9 this 31)) Z.1 dX13_strips_72 fl_X13_401 t0 rfl ?_
        refine J_callS (as := [.int ((hI h9 this 32) + 1), .int (hI h9 this 31)]) (rest := [va_rf (some this)]) (sy := [.int (pJ9_max_7cf53 ((hI h9 this 32) + 1) (hI h9 this 31)), va_rf (some this)]) Z.1 dX13_strips_75 cw_X13_178 (pJ9_max_7cf53_ok G (dk - 1) (by omega) g h9 ((hI h9 this 32) + 1) (hI h9 this 31)) (zG Z) rfl (by simp [cat_i, cat_l, cat_d, cat_rf]) (zF Z (by omega)) (zO Z (by omega) (by decide)) (zM _) Z.2.1 Z.2.1 rfl rfl ?_
        obtain ⟨h12, q13, hf⟩ := bd_i hf
        refine J_callV (ci := 11) (as := [.int (pJ9_max_7cf53 ((hI h9 this 32) + 1) (hI h9 this 31))]) (rest := []) (sy := []) Z.1 dX13_strips_78 cw_X13_503 (pX13_begins_ok G (dk - 1) (by omega) q13) rfl rfl t0 (zG Z) rfl (by decide) (zF Z (by omega)) (zO Z (by omega) (by decide)) (zM _) Z.2.1 Z.2.1 rfl rfl ?_
        refine J_iinc Z.1 (v := (-16)) (lv2 := [(3, .int (l3 + (-16))), (0, va_rf (some this)), (1, .int p1), (2, .int l2)]) 3 dX13_strips_81 rfl (by decide) (zL Z (by decide)) rfl ?_
        obtain ⟨x14, ex14⟩ : ∃ z, z = (l3 + (-16)) := ⟨_, rfl⟩
        replace hf := lt_i hf x14 ex14
        rw [← ex14]
        refine J_aload_n Z.1 1 dX13_strips_84 rfl rfl ?_
        refine J_dup Z.1 dX13_strips_85 rfl ?_
        refine J_get (v := .int (hI h12 this 33)) Z.1 dX13_strips_86 fl_X13_418 t0 rfl ?_
        refine J_bipush Z.1 (v := 16) (by decide) dX13_strips_89 ?_
        refine J_iadd Z.1 dX13_strips_91 ?_
        refine J_putI Z.1 dX13_strips_92 fl_X13_418 (fun q => by cases q) t0 rfl rfl (congrArg Value.int (hI_s _ _ _ _)) ?_
        refine J_th (fun h15 eh15 => ?_)
        replace hf := lt_i hf h15 eh15
        refine J_goto Z.1 19 dX13_strips_95 (by decide) ?_
        refine J_lv [1, 2, 3, 0] rfl ?_
        exact hk19 _ _ _ hf
      · rw [if_neg c11] at hf
        cases hf
        exact J_vret Z.1 Z.2.2.2.2.2 dX13_strips_63
def pX13_strips_l19 (g : MT) (fO : CT → Nat → Int32 → Int32 → Option CT) (this : Nat) (p1 : Int32) : Nat → Int32 → Int32 → CT → Option CT
  | 0, _, _, _ => none
  | n + 1, l2, l3, h => pX13_strips_b19 g fO this p1 (pX13_strips_l19 g fO this p1 n) l2 l3 h
theorem pX13_strips_l19_ok {X : Cx} {G : Gx} {dk : Nat} {g : MT} {h0 : CT} {this : Nat} {p1 : Int32} (Z : Zx X G cX13_strips RX13 4 dk none none g h0) (hK : 3 ≤ dk) {fO : CT → Nat → Int32 → Int32 → Option CT} {KO : Nat} (hO : ∀ (d : Nat), KO ≤ d → ∀ (h : CT) (this : Nat) (p1 : Int32) (p2 : Int32) (h1 : CT), fO h this p1 p2 = some h1 → Ctr G d yX13_doAll cX13_doAll 4 none [va_rf (some this), .int p1, .int p2] g h none g h1) (hKO : KO + 1 ≤ dk) (t0 : gT g this = 12) : ∀ (n : Nat) (l2 : Int32) (l3 : Int32) (h : CT), pX13_strips_l19 g fO this p1 n l2 l3 h = some h0 → J X g h 19 [(0, va_rf (some this)), (1, .int p1), (2, .int l2), (3, .int l3)] [] := by
  intro n
  induction n with
  | zero => intro l2 l3 h hf; cases hf
  | succ n ih => intro l2 l3 h hf; exact pX13_strips_b19_ok Z hK hO hKO t0 ih l2 l3 h hf
def pX13_strips (g : MT) (fO : CT → Nat → Int32 → Int32 → Option CT) (h : CT) (this : Nat) (p1 : Int32) : Option CT := tg g this 12 (lt (hR h this 19) fun r1 => (nn r1 fun a1 => (tg g a1 20 (ix (gL g a1) 0 (lt (hI h a1 (Int32.toNatClampNeg 0)) fun x4 => (bd (pX13_at g h this p1 4) fun x5 => (lt (sI h this 33 0) fun h7 => (pX13_strips_l19 g fO this p1  FUEL x4 x5 h7))))))))
set_option maxRecDepth 10000 in
set_option maxHeartbeats 4000000 in
theorem pX13_strips_ok (G : Gx) (dk : Nat) (hK : 3 ≤ dk) {g : MT} {fO : CT → Nat → Int32 → Int32 → Option CT} {KO : Nat} (hO : ∀ (d : Nat), KO ≤ d → ∀ (h : CT) (this : Nat) (p1 : Int32) (p2 : Int32) (h1 : CT), fO h this p1 p2 = some h1 → Ctr G d yX13_doAll cX13_doAll 4 none [va_rf (some this), .int p1, .int p2] g h none g h1) (hKO : KO + 1 ≤ dk) {h h0 : CT} {this : Nat} {p1 : Int32} (hf : pX13_strips g fO h this p1 = some h0) : Ctr G dk yX13_strips cX13_strips 4 none [va_rf (some this), .int p1] g h none g h0 := by
  refine Ctr.ofZ (lv := [(0, va_rf (some this)), (1, .int p1)]) (by decide +kernel) (by simp [cat_i, cat_l, cat_d, cat_rf]) rfl fun X Z => ?_
  unfold pX13_strips at hf
  obtain ⟨t0, hf⟩ := tg_i hf
  refine J_aload_n Z.1 0 dX13_strips_0 rfl rfl ?_
  refine J_get (v := va_rf (hR h this 19)) Z.1 dX13_strips_1 fl_X13_31 t0 rfl ?_
  refine J_tr (fun r1 er1 => ?_)
  replace hf := lt_i hf r1 er1
  refine J_iconst Z.1 (v := 0) (by decide) dX13_strips_4 ?_
  obtain ⟨a1, rfl, hf⟩ := nn_i hf
  obtain ⟨t2, hf⟩ := tg_i hf
  obtain ⟨i3, hf⟩ := ix_i hf
  refine J_iaload Z.1 dX13_strips_5 t2 i3 ?_
  refine J_ti (fun x4 ex4 => ?_)
  replace hf := lt_i hf x4 ex4
  refine J_istore_n Z.1 (lv2 := [(2, .int x4), (0, va_rf (some this)), (1, .int p1)]) dX13_strips_6 rfl (zL Z (by decide)) rfl ?_
  refine J_aload_n Z.1 1 dX13_strips_7 rfl rfl ?_
  refine J_iload_n Z.1 2 dX13_strips_8 rfl rfl ?_
  refine J_iconst Z.1 (v := 4) (by decide) dX13_strips_9 ?_
  obtain ⟨x5, q6, hf⟩ := bd_i hf
  refine J_callV (ci := 11) (as := [.int p1, .int 4]) (rest := []) (sy := [.int x5]) Z.1 dX13_strips_10 cw_X13_381 (pX13_at_ok G (dk - 1) (by omega) q6) rfl rfl t0 (zG Z) rfl (by decide) (zF Z (by omega)) (zO Z (by omega) (by decide)) (zM _) Z.2.1 Z.2.1 rfl rfl ?_
  refine J_istore_n Z.1 (lv2 := [(3, .int x5), (2, .int x4), (0, va_rf (some this)), (1, .int p1)]) dX13_strips_13 rfl (zL Z (by decide)) rfl ?_
  refine J_aload_n Z.1 2 dX13_strips_14 rfl rfl ?_
  refine J_iconst Z.1 (v := 0) (by decide) dX13_strips_15 ?_
  refine J_putI Z.1 dX13_strips_16 fl_X13_418 (fun q => by cases q) t0 rfl rfl (congrArg Value.int (hI_s _ _ _ _)) ?_
  refine J_th (fun h7 eh7 => ?_)
  replace hf := lt_i hf h7 eh7
  refine J_lv [2, 3, 1, 0] rfl ?_
  exact pX13_strips_l19_ok Z hK hO hKO t0  FUEL _ _ _ hf
theorem dX13_doOne_0 : decode cX13_doOne 0 = .ok (.aload_n 0, 1) := by decide +kernel
theorem dX13_doOne_1 : decode cX13_doOne 1 = .ok (.iload_n 1, 1) := by decide +kernel
theorem dX13_doOne_2 : decode cX13_doOne 2 = .ok (.iconst 0, 1) := by decide +kernel
theorem dX13_doOne_3 : decode cX13_doOne 3 = .ok (.invokevirtual 381, 3) := by decide +kernel
theorem dX13_doOne_6 : decode cX13_doOne 6 = .ok (.istore_n 2, 1) := by decide +kernel
theorem dX13_doOne_7 : decode cX13_doOne 7 = .ok (.aload_n 0, 1) := by decide +kernel
theorem dX13_doOne_8 : decode cX13_doOne 8 = .ok (.iload_n 1, 1) := by decide +kernel
theorem dX13_doOne_9 : decode cX13_doOne 9 = .ok (.invokevirtual 500, 3) := by decide +kernel
theorem dX13_doOne_12 : decode cX13_doOne 12 = .ok (.istore_n 3, 1) := by decide +kernel
theorem dX13_doOne_13 : decode cX13_doOne 13 = .ok (.aload_n 0, 1) := by decide +kernel
theorem dX13_doOne_14 : decode cX13_doOne 14 = .ok (.iload_n 3, 1) := by decide +kernel
theorem dX13_doOne_15 : decode cX13_doOne 15 = .ok (.invokevirtual 503, 3) := by decide +kernel
theorem dX13_doOne_18 : decode cX13_doOne 18 = .ok (.aload_n 0, 1) := by decide +kernel
theorem dX13_doOne_19 : decode cX13_doOne 19 = .ok (.getfield 50, 3) := by decide +kernel
theorem dX13_doOne_22 : decode cX13_doOne 22 = .ok (.iload_n 1, 1) := by decide +kernel
theorem dX13_doOne_23 : decode cX13_doOne 23 = .ok (.iload_n 3, 1) := by decide +kernel
theorem dX13_doOne_24 : decode cX13_doOne 24 = .ok (.iastore, 1) := by decide +kernel
theorem dX13_doOne_25 : decode cX13_doOne 25 = .ok (.aload_n 0, 1) := by decide +kernel
theorem dX13_doOne_26 : decode cX13_doOne 26 = .ok (.getfield 53, 3) := by decide +kernel
theorem dX13_doOne_29 : decode cX13_doOne 29 = .ok (.iload_n 1, 1) := by decide +kernel
theorem dX13_doOne_30 : decode cX13_doOne 30 = .ok (.iconst (-1), 1) := by decide +kernel
theorem dX13_doOne_31 : decode cX13_doOne 31 = .ok (.iastore, 1) := by decide +kernel
theorem dX13_doOne_32 : decode cX13_doOne 32 = .ok (.iload_n 2, 1) := by decide +kernel
theorem dX13_doOne_33 : decode cX13_doOne 33 = .ok (.invokestatic 395, 3) := by decide +kernel
theorem dX13_doOne_36 : decode cX13_doOne 36 = .ok (.ifCond .lt 41, 3) := by decide +kernel
theorem dX13_doOne_39 : decode cX13_doOne 39 = .ok (.aload_n 0, 1) := by decide +kernel
theorem dX13_doOne_40 : decode cX13_doOne 40 = .ok (.iload_n 1, 1) := by decide +kernel
theorem dX13_doOne_41 : decode cX13_doOne 41 = .ok (.iload_n 3, 1) := by decide +kernel
theorem dX13_doOne_42 : decode cX13_doOne 42 = .ok (.invokevirtual 506, 3) := by decide +kernel
theorem dX13_doOne_45 : decode cX13_doOne 45 = .ok (.istore 4, 2) := by decide +kernel
theorem dX13_doOne_47 : decode cX13_doOne 47 = .ok (.aload_n 0, 1) := by decide +kernel
theorem dX13_doOne_48 : decode cX13_doOne 48 = .ok (.getfield 53, 3) := by decide +kernel
theorem dX13_doOne_51 : decode cX13_doOne 51 = .ok (.iload_n 1, 1) := by decide +kernel
theorem dX13_doOne_52 : decode cX13_doOne 52 = .ok (.iload 4, 2) := by decide +kernel
theorem dX13_doOne_54 : decode cX13_doOne 54 = .ok (.iastore, 1) := by decide +kernel
theorem dX13_doOne_55 : decode cX13_doOne 55 = .ok (.iload 4, 2) := by decide +kernel
theorem dX13_doOne_57 : decode cX13_doOne 57 = .ok (.ifCond .lt 17, 3) := by decide +kernel
theorem dX13_doOne_60 : decode cX13_doOne 60 = .ok (.aload_n 0, 1) := by decide +kernel
theorem dX13_doOne_61 : decode cX13_doOne 61 = .ok (.getfield 369, 3) := by decide +kernel
theorem dX13_doOne_64 : decode cX13_doOne 64 = .ok (.ifCond .ne 10, 3) := by decide +kernel
theorem dX13_doOne_67 : decode cX13_doOne 67 = .ok (.aload_n 0, 1) := by decide +kernel
theorem dX13_doOne_68 : decode cX13_doOne 68 = .ok (.iload_n 1, 1) := by decide +kernel
theorem dX13_doOne_69 : decode cX13_doOne 69 = .ok (.iload 4, 2) := by decide +kernel
theorem dX13_doOne_71 : decode cX13_doOne 71 = .ok (.invokevirtual 509, 3) := by decide +kernel
theorem dX13_doOne_74 : decode cX13_doOne 74 = .ok (.goto 78, 3) := by decide +kernel
theorem dX13_doOne_77 : decode cX13_doOne 77 = .ok (.iload_n 2, 1) := by decide +kernel
theorem dX13_doOne_78 : decode cX13_doOne 78 = .ok (.invokestatic 357, 3) := by decide +kernel
theorem dX13_doOne_81 : decode cX13_doOne 81 = .ok (.ifCond .eq 12, 3) := by decide +kernel
theorem dX13_doOne_84 : decode cX13_doOne 84 = .ok (.aload_n 0, 1) := by decide +kernel
theorem dX13_doOne_85 : decode cX13_doOne 85 = .ok (.iload_n 1, 1) := by decide +kernel
theorem dX13_doOne_86 : decode cX13_doOne 86 = .ok (.iload_n 3, 1) := by decide +kernel
theorem dX13_doOne_87 : decode cX13_doOne 87 = .ok (.invokevirtual 512, 3) := by decide +kernel
theorem dX13_doOne_90 : decode cX13_doOne 90 = .ok (.goto 62, 3) := by decide +kernel
theorem dX13_doOne_93 : decode cX13_doOne 93 = .ok (.iload_n 2, 1) := by decide +kernel
theorem dX13_doOne_94 : decode cX13_doOne 94 = .ok (.bipush 22, 2) := by decide +kernel
theorem dX13_doOne_96 : decode cX13_doOne 96 = .ok (.if_icmp .ne 12, 3) := by decide +kernel
theorem dX13_doOne_99 : decode cX13_doOne 99 = .ok (.aload_n 0, 1) := by decide +kernel
theorem dX13_doOne_100 : decode cX13_doOne 100 = .ok (.iload_n 1, 1) := by decide +kernel
theorem dX13_doOne_101 : decode cX13_doOne 101 = .ok (.iload_n 3, 1) := by decide +kernel
theorem dX13_doOne_102 : decode cX13_doOne 102 = .ok (.invokevirtual 515, 3) := by decide +kernel
theorem dX13_doOne_105 : decode cX13_doOne 105 = .ok (.goto 47, 3) := by decide +kernel
theorem dX13_doOne_108 : decode cX13_doOne 108 = .ok (.iload_n 2, 1) := by decide +kernel
theorem dX13_doOne_109 : decode cX13_doOne 109 = .ok (.bipush 20, 2) := by decide +kernel
theorem dX13_doOne_111 : decode cX13_doOne 111 = .ok (.if_icmp .ne 11, 3) := by decide +kernel
theorem dX13_doOne_114 : decode cX13_doOne 114 = .ok (.aload_n 0, 1) := by decide +kernel
theorem dX13_doOne_115 : decode cX13_doOne 115 = .ok (.iload_n 3, 1) := by decide +kernel
theorem dX13_doOne_116 : decode cX13_doOne 116 = .ok (.invokevirtual 518, 3) := by decide +kernel
theorem dX13_doOne_119 : decode cX13_doOne 119 = .ok (.goto 33, 3) := by decide +kernel
theorem dX13_doOne_122 : decode cX13_doOne 122 = .ok (.iload_n 2, 1) := by decide +kernel
theorem dX13_doOne_123 : decode cX13_doOne 123 = .ok (.ifCond .ne 18, 3) := by decide +kernel
theorem dX13_doOne_126 : decode cX13_doOne 126 = .ok (.aload_n 0, 1) := by decide +kernel
theorem dX13_doOne_127 : decode cX13_doOne 127 = .ok (.getfield 31, 3) := by decide +kernel
theorem dX13_doOne_130 : decode cX13_doOne 130 = .ok (.iconst 0, 1) := by decide +kernel
theorem dX13_doOne_131 : decode cX13_doOne 131 = .ok (.aload_n 0, 1) := by decide +kernel
theorem dX13_doOne_132 : decode cX13_doOne 132 = .ok (.iload_n 1, 1) := by decide +kernel
theorem dX13_doOne_133 : decode cX13_doOne 133 = .ok (.iconst 4, 1) := by decide +kernel
theorem dX13_doOne_134 : decode cX13_doOne 134 = .ok (.invokevirtual 381, 3) := by decide +kernel
theorem dX13_doOne_137 : decode cX13_doOne 137 = .ok (.iastore, 1) := by decide +kernel
theorem dX13_doOne_138 : decode cX13_doOne 138 = .ok (.goto 14, 3) := by decide +kernel
theorem dX13_doOne_141 : decode cX13_doOne 141 = .ok (.iload_n 2, 1) := by decide +kernel
theorem dX13_doOne_142 : decode cX13_doOne 142 = .ok (.bipush 26, 2) := by decide +kernel
theorem dX13_doOne_144 : decode cX13_doOne 144 = .ok (.if_icmp .ne 8, 3) := by decide +kernel
theorem dX13_doOne_147 : decode cX13_doOne 147 = .ok (.aload_n 0, 1) := by decide +kernel
theorem dX13_doOne_148 : decode cX13_doOne 148 = .ok (.iconst 1, 1) := by decide +kernel
theorem dX13_doOne_149 : decode cX13_doOne 149 = .ok (.putfield 378, 3) := by decide +kernel
theorem dX13_doOne_152 : decode cX13_doOne 152 = .ok (.aload_n 0, 1) := by decide +kernel
theorem dX13_doOne_153 : decode cX13_doOne 153 = .ok (.getfield 369, 3) := by decide +kernel
theorem dX13_doOne_156 : decode cX13_doOne 156 = .ok (.ifCond .ne 13, 3) := by decide +kernel
theorem dX13_doOne_159 : decode cX13_doOne 159 = .ok (.aload_n 0, 1) := by decide +kernel
theorem dX13_doOne_160 : decode cX13_doOne 160 = .ok (.dup, 1) := by decide +kernel
theorem dX13_doOne_161 : decode cX13_doOne 161 = .ok (.getfield 521, 3) := by decide +kernel
theorem dX13_doOne_164 : decode cX13_doOne 164 = .ok (.iconst 1, 1) := by decide +kernel
theorem dX13_doOne_165 : decode cX13_doOne 165 = .ok (.iadd, 1) := by decide +kernel
theorem dX13_doOne_166 : decode cX13_doOne 166 = .ok (.putfield 521, 3) := by decide +kernel
theorem dX13_doOne_169 : decode cX13_doOne 169 = .ok (.iload_n 2, 1) := by decide +kernel
theorem dX13_doOne_170 : decode cX13_doOne 170 = .ok (.bipush 25, 2) := by decide +kernel
theorem dX13_doOne_172 : decode cX13_doOne 172 = .ok (.if_icmp .ne 8, 3) := by decide +kernel
theorem dX13_doOne_175 : decode cX13_doOne 175 = .ok (.aload_n 0, 1) := by decide +kernel
theorem dX13_doOne_176 : decode cX13_doOne 176 = .ok (.iload_n 1, 1) := by decide +kernel
theorem dX13_doOne_177 : decode cX13_doOne 177 = .ok (.invokevirtual 524, 3) := by decide +kernel
theorem dX13_doOne_180 : decode cX13_doOne 180 = .ok (.return_, 1) := by decide +kernel
def pX13_doOne_b169 (g : MT) (fO : CT → Nat → Int32 → Int32 → Option CT) (this : Nat) (p1 : Int32) (l2 : Int32) (h : CT) : Option CT := if l2 = 25 then bd (pX13_strips g fO h this p1) fun h2 => (some h2) else some h
set_option maxRecDepth 10000 in
set_option maxHeartbeats 4000000 in
theorem pX13_doOne_b169_ok {X : Cx} {G : Gx} {dk : Nat} {g : MT} {h0 : CT} {this : Nat} {p1 : Int32} (Z : Zx X G cX13_doOne RX13 5 dk none none g h0) (hK : 5 ≤ dk) {fO : CT → Nat → Int32 → Int32 → Option CT} {KO : Nat} (hO : ∀ (d : Nat), KO ≤ d → ∀ (h : CT) (this : Nat) (p1 : Int32) (p2 : Int32) (h1 : CT), fO h this p1 p2 = some h1 → Ctr G d yX13_doAll cX13_doAll 4 none [va_rf (some this), .int p1, .int p2] g h none g h1) (hKO : KO + 2 ≤ dk) (t0 : gT g this = 12) (l2 : Int32) (h : CT) (hf : pX13_doOne_b169 g fO this p1 l2 h = some h0) : J X g h 169 [(0, va_rf (some this)), (1, .int p1), (2, .int l2)] [] := by
  unfold pX13_doOne_b169 at hf
  refine J_iload_n Z.1 2 dX13_doOne_169 rfl rfl ?_
  refine J_bipush Z.1 (v := 25) (by decide) dX13_doOne_170 ?_
  refine J_icmp_ne Z.1 180 dX13_doOne_172 (by decide) (fun c1 => ?_) (fun c1 => ?_)
  · rw [if_neg c1] at hf
    cases hf
    exact J_vret Z.1 Z.2.2.2.2.2 dX13_doOne_180
  · rw [if_pos c1] at hf
    refine J_aload_n Z.1 0 dX13_doOne_175 rfl rfl ?_
    refine J_iload_n Z.1 1 dX13_doOne_176 rfl rfl ?_
    obtain ⟨h2, q3, hf⟩ := bd_i hf
    refine J_callV (ci := 11) (as := [.int p1]) (rest := []) (sy := []) Z.1 dX13_doOne_177 cw_X13_524 (pX13_strips_ok G (dk - 1) (by omega) hO (by omega) q3) rfl rfl t0 (zG Z) rfl (by decide) (zF Z (by omega)) (zO Z (by omega) (by decide)) (zM _) Z.2.1 Z.2.1 rfl rfl ?_
    cases hf
    exact J_vret Z.1 Z.2.2.2.2.2 dX13_doOne_180
def pX13_doOne_b152 (g : MT) (fO : CT → Nat → Int32 → Int32 → Option CT) (this : Nat) (p1 : Int32) (l2 : Int32) (h : CT) : Option CT := if (hI h this 37) = 0 then lt (sI h this 36 ((hI h this 36) + 1)) fun h2 => (pX13_doOne_b169 g fO this p1  l2 h2) else pX13_doOne_b169 g fO this p1  l2 h
set_option maxRecDepth 10000 in
set_option maxHeartbeats 4000000 in
theorem pX13_doOne_b152_ok {X : Cx} {G : Gx} {dk : Nat} {g : MT} {h0 : CT} {this : Nat} {p1 : Int32} (Z : Zx X G cX13_doOne RX13 5 dk none none g h0) (hK : 5 ≤ dk) {fO : CT → Nat → Int32 → Int32 → Option CT} {KO : Nat} (hO : ∀ (d : Nat), KO ≤ d → ∀ (h : CT) (this : Nat) (p1 : Int32) (p2 : Int32) (h1 : CT), fO h this p1 p2 = some h1 → Ctr G d yX13_doAll cX13_doAll 4 none [va_rf (some this), .int p1, .int p2] g h none g h1) (hKO : KO + 2 ≤ dk) (t0 : gT g this = 12) (l2 : Int32) (h : CT) (hf : pX13_doOne_b152 g fO this p1 l2 h = some h0) : J X g h 152 [(0, va_rf (some this)), (1, .int p1), (2, .int l2)] [] := by
  unfold pX13_doOne_b152 at hf
  refine J_aload_n Z.1 0 dX13_doOne_152 rfl rfl ?_
  refine J_get (v := .int (hI h this 37)) Z.1 dX13_doOne_153 fl_X13_369 t0 rfl ?_
  refine J_if_ne Z.1 169 dX13_doOne_156 (by decide) (fun c1 => ?_) (fun c1 => ?_)
  · rw [if_neg c1] at hf
    exact pX13_doOne_b169_ok Z hK hO hKO t0  _ _ hf
  · rw [if_pos c1] at hf
    refine J_aload_n Z.1 0 dX13_doOne_159 rfl rfl ?_
    refine J_dup Z.1 dX13_doOne_160 rfl ?_
    refine J_get (v := .int (hI h this 36)) Z.1 dX13_doOne_161 fl_X13_521 t0 rfl ?_
    refine J_iconst Z.1 (v := 1) (by decide) dX13_doOne_164 ?_
    refine J_iadd Z.1 dX13_doOne_165 ?_
    refine J_putI Z.1 dX13_doOne_166 fl_X13_521 (fun q => by cases q) t0 rfl rfl (congrArg Value.int (hI_s _ _ _ _)) ?_
    refine J_th (fun h2 eh2 => ?_)
    replace hf := lt_i hf h2 eh2
    exact pX13_doOne_b169_ok Z hK hO hKO t0  _ _ hf
def pX13_doOne_b74 (g : MT) (fO : CT → Nat → Int32 → Int32 → Option CT) (this : Nat) (p1 : Int32) (l2 : Int32) (h : CT) : Option CT := pX13_doOne_b152 g fO this p1  l2 h
set_option maxRecDepth 10000 in
set_option maxHeartbeats 4000000 in
theorem pX13_doOne_b74_ok {X : Cx} {G : Gx} {dk : Nat} {g : MT} {h0 : CT} {this : Nat} {p1 : Int32} (Z : Zx X G cX13_doOne RX13 5 dk none none g h0) (hK : 5 ≤ dk) {fO : CT → Nat → Int32 → Int32 → Option CT} {KO : Nat} (hO : ∀ (d : Nat), KO ≤ d → ∀ (h : CT) (this : Nat) (p1 : Int32) (p2 : Int32) (h1 : CT), fO h this p1 p2 = some h1 → Ctr G d yX13_doAll cX13_doAll 4 none [va_rf (some this), .int p1, .int p2] g h none g h1) (hKO : KO + 2 ≤ dk) (t0 : gT g this = 12) (l2 : Int32) (h : CT) (hf : pX13_doOne_b74 g fO this p1 l2 h = some h0) : J X g h 74 [(0, va_rf (some this)), (1, .int p1), (2, .int l2)] [] := by
  unfold pX13_doOne_b74 at hf
  refine J_goto Z.1 152 dX13_doOne_74 (by decide) ?_
  exact pX13_doOne_b152_ok Z hK hO hKO t0  _ _ hf
def pX13_doOne (g : MT) (fO : CT → Nat → Int32 → Int32 → Option CT) (h : CT) (this : Nat) (p1 : Int32) : Option CT := tg g this 12 (bd (pX13_at g h this p1 0) fun x1 => (bd (pX13_beginning g h this p1) fun x3 => (bd (pX13_begins g h this x3) fun h5 => (lt (hR h5 this 27) fun r7 => (nn r7 fun a7 => (tg g a7 20 (ix (gL g a7) p1 (lt (sI h5 a7 (Int32.toNatClampNeg p1) x3) fun h10 => (lt (hR h10 this 28) fun r11 => (nn r11 fun a11 => (tg g a11 20 (ix (gL g a11) p1 (lt (sI h10 a11 (Int32.toNatClampNeg p1) (-1)) fun h14 => (if (pX13_unitOf x1) < 0 then if (pX13_isFolded x1) = 0 then if x1 = 22 then bd (pX13_counts g h14 this p1 x3) fun h30 => (pX13_doOne_b152 g fO this p1  x1 h30) else if x1 = 20 then bd (pX13_flips g h14 this x3) fun h28 => (pX13_doOne_b152 g fO this p1  x1 h28) else if x1 = 0 then lt (hR h14 this 19) fun r22 => (bd (pX13_at g h14 this p1 4) fun x23 => (nn r22 fun a22 => (tg g a22 20 (ix (gL g a22) 0 (lt (sI h14 a22 (Int32.toNatClampNeg 0) x23) fun h27 => (pX13_doOne_b152 g fO this p1  x1 h27)))))) else if x1 = 26 then lt (sI h14 this 40 1) fun h21 => (pX13_doOne_b152 g fO this p1  x1 h21) else pX13_doOne_b152 g fO this p1  x1 h14 else bd (pX13_folds g h14 this p1 x3) fun h32 => (pX13_doOne_b152 g fO this p1  x1 h32) else bd2 (pX13_elements g h14 this p1 x3) fun x36 h34 => (lt (hR h34 this 28) fun r37 => (nn r37 fun a37 => (tg g a37 20 (ix (gL g a37) p1 (lt (sI h34 a37 (Int32.toNatClampNeg p1) x36) fun h40 => (if x36 < 0 then pX13_doOne_b74 g fO this p1  x1 h40 else if (hI h40 this 37) = 0 then bd (pX13_settles g h40 this p1 x36) fun h43 => (pX13_doOne_b74 g fO this p1  x1 h43) else pX13_doOne_b74 g fO this p1  x1 h40))))))))))))))))))))
set_option maxRecDepth 10000 in
set_option maxHeartbeats 4000000 in
theorem pX13_doOne_ok (G : Gx) (dk : Nat) (hK : 5 ≤ dk) {g : MT} {fO : CT → Nat → Int32 → Int32 → Option CT} {KO : Nat} (hO : ∀ (d : Nat), KO ≤ d → ∀ (h : CT) (this : Nat) (p1 : Int32) (p2 : Int32) (h1 : CT), fO h this p1 p2 = some h1 → Ctr G d yX13_doAll cX13_doAll 4 none [va_rf (some this), .int p1, .int p2] g h none g h1) (hKO : KO + 2 ≤ dk) {h h0 : CT} {this : Nat} {p1 : Int32} (hf : pX13_doOne g fO h this p1 = some h0) : Ctr G dk yX13_doOne cX13_doOne 5 none [va_rf (some this), .int p1] g h none g h0 := by
  refine Ctr.ofZ (lv := [(0, va_rf (some this)), (1, .int p1)]) (by decide +kernel) (by simp [cat_i, cat_l, cat_d, cat_rf]) rfl fun X Z => ?_
  unfold pX13_doOne at hf
  obtain ⟨t0, hf⟩ := tg_i hf
  refine J_aload_n Z.1 0 dX13_doOne_0 rfl rfl ?_
  refine J_iload_n Z.1 1 dX13_doOne_1 rfl rfl ?_
  refine J_iconst Z.1 (v := 0) (by decide) dX13_doOne_2 ?_
  obtain ⟨x1, q2, hf⟩ := bd_i hf
  refine J_callV (ci := 11) (as := [.int p1, .int 0]) (rest := []) (sy := [.int x1]) Z.1 dX13_doOne_3 cw_X13_381 (pX13_at_ok G (dk - 1) (by omega) q2) rfl rfl t0 (zG Z) rfl (by decide) (zF Z (by omega)) (zO Z (by omega) (by decide)) (zM _) Z.2.1 Z.2.1 rfl rfl ?_
  refine J_istore_n Z.1 (lv2 := [(2, .int x1), (0, va_rf (some this)), (1, .int p1)]) dX13_doOne_6 rfl (zL Z (by decide)) rfl ?_
  refine J_aload_n Z.1 1 dX13_doOne_7 rfl rfl ?_
  refine J_iload_n Z.1 2 dX13_doOne_8 rfl rfl ?_
  obtain ⟨x3, q4, hf⟩ := bd_i hf
  refine J_callV (ci := 11) (as := [.int p1]) (rest := []) (sy := [.int x3]) Z.1 dX13_doOne_9 cw_X13_500 (pX13_beginning_ok G (dk - 1) (by omega) q4) rfl rfl t0 (zG Z) rfl (by decide) (zF Z (by omega)) (zO Z (by omega) (by decide)) (zM _) Z.2.1 Z.2.1 rfl rfl ?_
  refine J_istore_n Z.1 (lv2 := [(3, .int x3), (2, .int x1), (0, va_rf (some this)), (1, .int p1)]) dX13_doOne_12 rfl (zL Z (by decide)) rfl ?_
  refine J_aload_n Z.1 2 dX13_doOne_13 rfl rfl ?_
  refine J_iload_n Z.1 0 dX13_doOne_14 rfl rfl ?_
  obtain ⟨h5, q6, hf⟩ := bd_i hf
  refine J_callV (ci := 11) (as := [.int x3]) (rest := []) (sy := []) Z.1 dX13_doOne_15 cw_X13_503 (pX13_begins_ok G (dk - 1) (by omega) q6) rfl rfl t0 (zG Z) rfl (by decide) (zF Z (by omega)) (zO Z (by omega) (by decide)) (zM _) Z.2.1 Z.2.1 rfl rfl ?_
  refine J_aload_n Z.1 2 dX13_doOne_18 rfl rfl ?_
  refine J_get (v := va_rf (hR h5 this 27)) Z.1 dX13_doOne_19 fl_X13_50 t0 rfl ?_
  refine J_tr (fun r7 er7 => ?_)
  replace hf := lt_i hf r7 er7
  refine J_iload_n Z.1 3 dX13_doOne_22 rfl rfl ?_
  refine J_iload_n Z.1 0 dX13_doOne_23 rfl rfl ?_
  obtain ⟨a7, rfl, hf⟩ := nn_i hf
  obtain ⟨t8, hf⟩ := tg_i hf
  obtain ⟨i9, hf⟩ := ix_i hf
  refine J_iastore Z.1 dX13_doOne_24 t8 i9 ?_
  refine J_th (fun h10 eh10 => ?_)
  replace hf := lt_i hf h10 eh10
  refine J_aload_n Z.1 2 dX13_doOne_25 rfl rfl ?_
  refine J_get (v := va_rf (hR h10 this 28)) Z.1 dX13_doOne_26 fl_X13_53 t0 rfl ?_
  refine J_tr (fun r11 er11 => ?_)
  replace hf := lt_i hf r11 er11
  refine J_iload_n Z.1 3 dX13_doOne_29 rfl rfl ?_
  refine J_iconst Z.1 (v := (-1)) (by decide) dX13_doOne_30 ?_
  obtain ⟨a11, rfl, hf⟩ := nn_i hf
  obtain ⟨t12, hf⟩ := tg_i hf
  obtain ⟨i13, hf⟩ := ix_i hf
  refine J_iastore Z.1 dX13_doOne_31 t12 i13 ?_
  refine J_th (fun h14 eh14 => ?_)
  replace hf := lt_i hf h14 eh14
  refine J_iload_n Z.1 1 dX13_doOne_32 rfl rfl ?_
  refine J_callS (as := [.int x1]) (rest := []) (sy := [.int (pX13_unitOf x1)]) Z.1 dX13_doOne_33 cw_X13_395 (pX13_unitOf_ok G (dk - 1) (by omega) g h14 x1) (zG Z) rfl (by decide) (zF Z (by omega)) (zO Z (by omega) (by decide)) (zM _) Z.2.1 Z.2.1 rfl rfl ?_
  refine J_if_lt Z.1 77 dX13_doOne_36 (by decide) (fun c15 => ?_) (fun c15 => ?_)
  · rw [if_pos c15] at hf
    refine J_iload_n Z.1 1 dX13_doOne_77 rfl rfl ?_
    refine J_callS (as := [.int x1]) (rest := []) (sy := [.int (pX13_isFolded x1)]) Z.1 dX13_doOne_78 cw_X13_357 (pX13_isFolded_ok G (dk - 1) (by omega) g h14 x1) (zG Z) rfl (by decide) (zF Z (by omega)) (zO Z (by omega) (by decide)) (zM _) Z.2.1 Z.2.1 rfl rfl ?_
    refine J_if_eq Z.1 93 dX13_doOne_81 (by decide) (fun c16 => ?_) (fun c16 => ?_)
    · rw [if_pos c16] at hf
      refine J_iload_n Z.1 1 dX13_doOne_93 rfl rfl ?_
      refine J_bipush Z.1 (v := 22) (by decide) dX13_doOne_94 ?_
      refine J_icmp_ne Z.1 108 dX13_doOne_96 (by decide) (fun c17 => ?_) (fun c17 => ?_)
      · rw [if_neg c17] at hf
        refine J_iload_n Z.1 1 dX13_doOne_108 rfl rfl ?_
        refine J_bipush Z.1 (v := 20) (by decide) dX13_doOne_109 ?_
        refine J_icmp_ne Z.1 122 dX13_doOne_111 (by decide) (fun c18 => ?_) (fun c18 => ?_)
        · rw [if_neg c18] at hf
          refine J_iload_n Z.1 1 dX13_doOne_122 rfl rfl ?_
          refine J_if_ne Z.1 141 dX13_doOne_123 (by decide) (fun c19 => ?_) (fun c19 => ?_)
          · rw [if_neg c19] at hf
            refine J_iload_n Z.1 1 dX13_doOne_141 rfl rfl ?_
            refine J_bipush Z.1 (v := 26) (by decide) dX13_doOne_142 ?_
            refine J_icmp_ne Z.1 152 dX13_doOne_144 (by decide) (fun c20 => ?_) (fun c20 => ?_)
            · rw [if_neg c20] at hf
              refine J_lv [2, 3, 1] rfl ?_
              exact pX13_doOne_b152_ok Z hK hO hKO t0  _ _ hf
            · rw [if_pos c20] at hf
              refine J_aload_n Z.1 2 dX13_doOne_147 rfl rfl ?_
              refine J_iconst Z.1 (v := 1) (by decide) dX13_doOne_148 ?_
              refine J_putI Z.1 dX13_doOne_149 fl_X13_378 (fun q => by cases q) t0 (z_n (Or.inr rfl)) (z_f (Or.inr rfl)) (congrArg Value.int (hI_s _ _ _ _)) ?_
              refine J_th (fun h21 eh21 => ?_)
              replace hf := lt_i hf h21 eh21
              refine J_lv [2, 3, 1] rfl ?_
              exact pX13_doOne_b152_ok Z hK hO hKO t0  _ _ hf
          · rw [if_pos c19] at hf
            refine J_aload_n Z.1 2 dX13_doOne_126 rfl rfl ?_
            refine J_get (v := va_rf (hR h14 this 19)) Z.1 dX13_doOne_127 fl_X13_31 t0 rfl ?_
            refine J_tr (fun r22 er22 => ?_)
            replace hf := lt_i hf r22 er22
            refine J_iconst Z.1 (v := 0) (by decide) dX13_doOne_130 ?_
            refine J_aload_n Z.1 2 dX13_doOne_131 rfl rfl ?_
            refine J_iload_n Z.1 3 dX13_doOne_132 rfl rfl ?_
            refine J_iconst Z.1 (v := 4) (by decide) dX13_doOne_133 ?_
            obtain ⟨x23, q24, hf⟩ := bd_i hf
            refine J_callV (ci := 11) (as := [.int p1, .int 4]) (rest := [.int 0, va_rf r22]) (sy := [.int x23, .int 0, va_rf r22]) Z.1 dX13_doOne_134 cw_X13_381 (pX13_at_ok G (dk - 1) (by omega) q24) rfl rfl t0 (zG Z) rfl (by simp [cat_i, cat_l, cat_d, cat_rf]) (zF Z (by omega)) (zO Z (by omega) (by decide)) (zM _) Z.2.1 Z.2.1 rfl rfl ?_
            obtain ⟨a22, rfl, hf⟩ := nn_i hf
            obtain ⟨t25, hf⟩ := tg_i hf
            obtain ⟨i26, hf⟩ := ix_i hf
            refine J_iastore Z.1 dX13_doOne_137 t25 i26 ?_
            refine J_th (fun h27 eh27 => ?_)
            replace hf := lt_i hf h27 eh27
            refine J_goto Z.1 152 dX13_doOne_138 (by decide) ?_
            refine J_lv [2, 3, 1] rfl ?_
            exact pX13_doOne_b152_ok Z hK hO hKO t0  _ _ hf
        · rw [if_pos c18] at hf
          refine J_aload_n Z.1 2 dX13_doOne_114 rfl rfl ?_
          refine J_iload_n Z.1 0 dX13_doOne_115 rfl rfl ?_
          obtain ⟨h28, q29, hf⟩ := bd_i hf
          refine J_callV (ci := 11) (as := [.int x3]) (rest := []) (sy := []) Z.1 dX13_doOne_116 cw_X13_518 (pX13_flips_ok G (dk - 1) (by omega) q29) rfl rfl t0 (zG Z) rfl (by decide) (zF Z (by omega)) (zO Z (by omega) (by decide)) (zM _) Z.2.1 Z.2.1 rfl rfl ?_
          refine J_goto Z.1 152 dX13_doOne_119 (by decide) ?_
          refine J_lv [2, 3, 1] rfl ?_
          exact pX13_doOne_b152_ok Z hK hO hKO t0  _ _ hf
      · rw [if_pos c17] at hf
        refine J_aload_n Z.1 2 dX13_doOne_99 rfl rfl ?_
        refine J_iload_n Z.1 3 dX13_doOne_100 rfl rfl ?_
        refine J_iload_n Z.1 0 dX13_doOne_101 rfl rfl ?_
        obtain ⟨h30, q31, hf⟩ := bd_i hf
        refine J_callV (ci := 11) (as := [.int p1, .int x3]) (rest := []) (sy := []) Z.1 dX13_doOne_102 cw_X13_515 (pX13_counts_ok G (dk - 1) (by omega) q31) rfl rfl t0 (zG Z) rfl (by decide) (zF Z (by omega)) (zO Z (by omega) (by decide)) (zM _) Z.2.1 Z.2.1 rfl rfl ?_
        refine J_goto Z.1 152 dX13_doOne_105 (by decide) ?_
        refine J_lv [2, 3, 1] rfl ?_
        exact pX13_doOne_b152_ok Z hK hO hKO t0  _ _ hf
    · rw [if_neg c16] at hf
      refine J_aload_n Z.1 2 dX13_doOne_84 rfl rfl ?_
      refine J_iload_n Z.1 3 dX13_doOne_85 rfl rfl ?_
      refine J_iload_n Z.1 0 dX13_doOne_86 rfl rfl ?_
      obtain ⟨h32, q33, hf⟩ := bd_i hf
      refine J_callV (ci := 11) (as := [.int p1, .int x3]) (rest := []) (sy := []) Z.1 dX13_doOne_87 cw_X13_512 (pX13_folds_ok G (dk - 1) (by omega) q33) rfl rfl t0 (zG Z) rfl (by decide) (zF Z (by omega)) (zO Z (by omega) (by decide)) (zM _) Z.2.1 Z.2.1 rfl rfl ?_
      refine J_goto Z.1 152 dX13_doOne_90 (by decide) ?_
      refine J_lv [2, 3, 1] rfl ?_
      exact pX13_doOne_b152_ok Z hK hO hKO t0  _ _ hf
  · rw [if_neg c15] at hf
    refine J_aload_n Z.1 2 dX13_doOne_39 rfl rfl ?_
    refine J_iload_n Z.1 3 dX13_doOne_40 rfl rfl ?_
    refine J_iload_n Z.1 0 dX13_doOne_41 rfl rfl ?_
    obtain ⟨x36, h34, q35, hf⟩ := bd2_i hf
    refine J_callV (ci := 11) (as := [.int p1, .int x3]) (rest := []) (sy := [.int x36]) Z.1 dX13_doOne_42 cw_X13_506 (pX13_elements_ok G (dk - 1) (by omega) q35) rfl rfl t0 (zG Z) rfl (by decide) (zF Z (by omega)) (zO Z (by omega) (by decide)) (zM _) Z.2.1 Z.2.1 rfl rfl ?_
    refine J_istore Z.1 (lv2 := [(4, .int x36), (3, .int x3), (2, .int x1), (0, va_rf (some this)), (1, .int p1)]) dX13_doOne_45 (zL Z (by decide)) rfl ?_
    refine J_aload_n Z.1 3 dX13_doOne_47 rfl rfl ?_
    refine J_get (v := va_rf (hR h34 this 28)) Z.1 dX13_doOne_48 fl_X13_53 t0 rfl ?_
    refine J_tr (fun r37 er37 => ?_)
    replace hf := lt_i hf r37 er37
    refine J_iload_n Z.1 4 dX13_doOne_51 rfl rfl ?_
    refine J_iload Z.1 0 dX13_doOne_52 rfl ?_
    obtain ⟨a37, rfl, hf⟩ := nn_i hf
    obtain ⟨t38, hf⟩ := tg_i hf
    obtain ⟨i39, hf⟩ := ix_i hf
    refine J_iastore Z.1 dX13_doOne_54 t38 i39 ?_
    refine J_th (fun h40 eh40 => ?_)
    replace hf := lt_i hf h40 eh40
    refine J_iload Z.1 0 dX13_doOne_55 rfl ?_
    refine J_if_lt Z.1 74 dX13_doOne_57 (by decide) (fun c41 => ?_) (fun c41 => ?_)
    · rw [if_pos c41] at hf
      refine J_lv [3, 4, 2] rfl ?_
      exact pX13_doOne_b74_ok Z hK hO hKO t0  _ _ hf
    · rw [if_neg c41] at hf
      refine J_aload_n Z.1 3 dX13_doOne_60 rfl rfl ?_
      refine J_get (v := .int (hI h40 this 37)) Z.1 dX13_doOne_61 fl_X13_369 t0 rfl ?_
      refine J_if_ne Z.1 74 dX13_doOne_64 (by decide) (fun c42 => ?_) (fun c42 => ?_)
      · rw [if_neg c42] at hf
        refine J_lv [3, 4, 2] rfl ?_
        exact pX13_doOne_b74_ok Z hK hO hKO t0  _ _ hf
      · rw [if_pos c42] at hf
        refine J_aload_n Z.1 3 dX13_doOne_67 rfl rfl ?_
        refine J_iload_n Z.1 4 dX13_doOne_68 rfl rfl ?_
        refine J_iload Z.1 0 dX13_doOne_69 rfl ?_
        obtain ⟨h43, q44, hf⟩ := bd_i hf
        refine J_callV (ci := 11) (as := [.int p1, .int x36]) (rest := []) (sy := []) Z.1 dX13_doOne_71 cw_X13_509 (pX13_settles_ok G (dk - 1) (by omega) q44) rfl rfl t0 (zG Z) rfl (by decide) (zF Z (by omega)) (zO Z (by omega) (by decide)) (zM _) Z.2.1 Z.2.1 rfl rfl ?_
        refine J_lv [3, 4, 2] rfl ?_
        exact pX13_doOne_b74_ok Z hK hO hKO t0  _ _ hf
theorem dX13_doAll_0 : decode cX13_doAll 0 = .ok (.iload_n 1, 1) := by decide +kernel
theorem dX13_doAll_1 : decode cX13_doAll 1 = .ok (.istore_n 3, 1) := by decide +kernel
theorem dX13_doAll_2 : decode cX13_doAll 2 = .ok (.iload_n 3, 1) := by decide +kernel
theorem dX13_doAll_3 : decode cX13_doAll 3 = .ok (.iload_n 2, 1) := by decide +kernel
theorem dX13_doAll_4 : decode cX13_doAll 4 = .ok (.if_icmp .ge 43, 3) := by decide +kernel
theorem dX13_doAll_7 : decode cX13_doAll 7 = .ok (.aload_n 0, 1) := by decide +kernel
theorem dX13_doAll_8 : decode cX13_doAll 8 = .ok (.getfield 378, 3) := by decide +kernel
theorem dX13_doAll_11 : decode cX13_doAll 11 = .ok (.ifCond .ne 36, 3) := by decide +kernel
theorem dX13_doAll_14 : decode cX13_doAll 14 = .ok (.aload_n 0, 1) := by decide +kernel
theorem dX13_doAll_15 : decode cX13_doAll 15 = .ok (.iload_n 3, 1) := by decide +kernel
theorem dX13_doAll_16 : decode cX13_doAll 16 = .ok (.invokevirtual 532, 3) := by decide +kernel
theorem dX13_doAll_19 : decode cX13_doAll 19 = .ok (.aload_n 0, 1) := by decide +kernel
theorem dX13_doAll_20 : decode cX13_doAll 20 = .ok (.iload_n 3, 1) := by decide +kernel
theorem dX13_doAll_21 : decode cX13_doAll 21 = .ok (.iconst 0, 1) := by decide +kernel
theorem dX13_doAll_22 : decode cX13_doAll 22 = .ok (.invokevirtual 381, 3) := by decide +kernel
theorem dX13_doAll_25 : decode cX13_doAll 25 = .ok (.bipush 25, 2) := by decide +kernel
theorem dX13_doAll_27 : decode cX13_doAll 27 = .ok (.if_icmp .ne 13, 3) := by decide +kernel
theorem dX13_doAll_30 : decode cX13_doAll 30 = .ok (.aload_n 0, 1) := by decide +kernel
theorem dX13_doAll_31 : decode cX13_doAll 31 = .ok (.iload_n 3, 1) := by decide +kernel
theorem dX13_doAll_32 : decode cX13_doAll 32 = .ok (.bipush 7, 2) := by decide +kernel
theorem dX13_doAll_34 : decode cX13_doAll 34 = .ok (.invokevirtual 381, 3) := by decide +kernel
theorem dX13_doAll_37 : decode cX13_doAll 37 = .ok (.goto 6, 3) := by decide +kernel
theorem dX13_doAll_40 : decode cX13_doAll 40 = .ok (.iload_n 3, 1) := by decide +kernel
theorem dX13_doAll_41 : decode cX13_doAll 41 = .ok (.iconst 1, 1) := by decide +kernel
theorem dX13_doAll_42 : decode cX13_doAll 42 = .ok (.iadd, 1) := by decide +kernel
theorem dX13_doAll_43 : decode cX13_doAll 43 = .ok (.istore_n 3, 1) := by decide +kernel
theorem dX13_doAll_44 : decode cX13_doAll 44 = .ok (.goto (-42), 3) := by decide +kernel
theorem dX13_doAll_47 : decode cX13_doAll 47 = .ok (.return_, 1) := by decide +kernel
def pX13_doAll_o_b43 (g : MT) (fO : CT → Nat → Int32 → Int32 → Option CT) (this : Nat) (p1 : Int32) (p2 : Int32) (k2 : Int32 → CT → Option CT) (s0 : Int32) (h : CT) : Option CT := k2 s0 h
set_option maxRecDepth 10000 in
set_option maxHeartbeats 4000000 in
theorem pX13_doAll_o_b43_ok {X : Cx} {G : Gx} {dk : Nat} {g : MT} {h0 : CT} {this : Nat} {p1 : Int32} {p2 : Int32} {k2 : Int32 → CT → Option CT} (Z : Zx X G cX13_doAll RX13 4 dk none none g h0) (hK : 6 ≤ dk) {fO : CT → Nat → Int32 → Int32 → Option CT} {KO : Nat} (hO : ∀ (d : Nat), KO ≤ d → ∀ (h : CT) (this : Nat) (p1 : Int32) (p2 : Int32) (h1 : CT), fO h this p1 p2 = some h1 → Ctr G d yX13_doAll cX13_doAll 4 none [va_rf (some this), .int p1, .int p2] g h none g h1) (hKO : KO + 3 ≤ dk) (t0 : gT g this = 12) (hk2 : ∀ (l3 : Int32) (h : CT), k2 l3 h = some h0 → J X g h 2 [(0, va_rf (some this)), (2, .int p2), (3, .int l3)] []) (s0 : Int32) (h : CT) (hf : pX13_doAll_o_b43 g fO this p1 p2 k2 s0 h = some h0) : J X g h 43 [(0, va_rf (some this)), (2, .int p2)] [.int s0] := by
  unfold pX13_doAll_o_b43 at hf
  refine J_istore_n Z.1 (lv2 := [(3, .int s0), (0, va_rf (some this)), (2, .int p2)]) dX13_doAll_43 rfl (zL Z (by decide)) rfl ?_
  refine J_goto Z.1 2 dX13_doAll_44 (by decide) ?_
  refine J_lv [1, 2, 0] rfl ?_
  exact hk2 _ _ hf
def pX13_doAll_o_b2 (g : MT) (fO : CT → Nat → Int32 → Int32 → Option CT) (this : Nat) (p1 : Int32) (p2 : Int32) (k2 : Int32 → CT → Option CT) (l3 : Int32) (h : CT) : Option CT := if p2 ≤ l3 then some h else if (hI h this 40) = 0 then bd (pX13_doOne g fO h this l3) fun h3 => (bd (pX13_at g h3 this l3 0) fun x5 => (if x5 = 25 then bd (pX13_at g h3 this l3 7) fun x8 => (pX13_doAll_o_b43 g fO this p1 p2 k2 x8 h3) else pX13_doAll_o_b43 g fO this p1 p2 k2 (l3 + 1) h3)) else some h
set_option maxRecDepth 10000 in
set_option maxHeartbeats 4000000 in
theorem pX13_doAll_o_b2_ok {X : Cx} {G : Gx} {dk : Nat} {g : MT} {h0 : CT} {this : Nat} {p1 : Int32} {p2 : Int32} {k2 : Int32 → CT → Option CT} (Z : Zx X G cX13_doAll RX13 4 dk none none g h0) (hK : 6 ≤ dk) {fO : CT → Nat → Int32 → Int32 → Option CT} {KO : Nat} (hO : ∀ (d : Nat), KO ≤ d → ∀ (h : CT) (this : Nat) (p1 : Int32) (p2 : Int32) (h1 : CT), fO h this p1 p2 = some h1 → Ctr G d yX13_doAll cX13_doAll 4 none [va_rf (some this), .int p1, .int p2] g h none g h1) (hKO : KO + 3 ≤ dk) (t0 : gT g this = 12) (hk2 : ∀ (l3 : Int32) (h : CT), k2 l3 h = some h0 → J X g h 2 [(0, va_rf (some this)), (2, .int p2), (3, .int l3)] []) (l3 : Int32) (h : CT) (hf : pX13_doAll_o_b2 g fO this p1 p2 k2 l3 h = some h0) : J X g h 2 [(0, va_rf (some this)), (2, .int p2), (3, .int l3)] [] := by
  unfold pX13_doAll_o_b2 at hf
  refine J_iload_n Z.1 2 dX13_doAll_2 rfl rfl ?_
  refine J_iload_n Z.1 1 dX13_doAll_3 rfl rfl ?_
  refine J_icmp_ge Z.1 47 dX13_doAll_4 (by decide) (fun c1 => ?_) (fun c1 => ?_)
  · rw [if_pos c1] at hf
    cases hf
    exact J_vret Z.1 Z.2.2.2.2.2 dX13_doAll_47
  · rw [if_neg c1] at hf
    refine J_aload_n Z.1 0 dX13_doAll_7 rfl rfl ?_
    refine J_get (v := .int (hI h this 40)) Z.1 dX13_doAll_8 fl_X13_378 t0 rfl ?_
    refine J_if_ne Z.1 47 dX13_doAll_11 (by decide) (fun c2 => ?_) (fun c2 => ?_)
    · rw [if_neg c2] at hf
      cases hf
      exact J_vret Z.1 Z.2.2.2.2.2 dX13_doAll_47
    · rw [if_pos c2] at hf
      refine J_aload_n Z.1 0 dX13_doAll_14 rfl rfl ?_
      refine J_iload_n Z.1 2 dX13_doAll_15 rfl rfl ?_
      obtain ⟨h3, q4, hf⟩ := bd_i hf
      refine J_callV (ci := 11) (as := [.int l3]) (rest := []) (sy := []) Z.1 dX13_doAll_16 cw_X13_532 (pX13_doOne_ok G (dk - 1) (by omega) hO (by omega) q4) rfl rfl t0 (zG Z) rfl (by decide) (zF Z (by omega)) (zO Z (by omega) (by decide)) (zM _) Z.2.1 Z.2.1 rfl rfl ?_
      refine J_aload_n Z.1 0 dX13_doAll_19 rfl rfl ?_
      refine J_iload_n Z.1 2 dX13_doAll_20 rfl rfl ?_
      refine J_iconst Z.1 (v := 0) (by decide) dX13_doAll_21 ?_
      obtain ⟨x5, q6, hf⟩ := bd_i hf
      refine J_callV (ci := 11) (as := [.int l3, .int 0]) (rest := []) (sy := [.int x5]) Z.1 dX13_doAll_22 cw_X13_381 (pX13_at_ok G (dk - 1) (by omega) q6) rfl rfl t0 (zG Z) rfl (by decide) (zF Z (by omega)) (zO Z (by omega) (by decide)) (zM _) Z.2.1 Z.2.1 rfl rfl ?_
      refine J_bipush Z.1 (v := 25) (by decide) dX13_doAll_25 ?_
      refine J_icmp_ne Z.1 40 dX13_doAll_27 (by decide) (fun c7 => ?_) (fun c7 => ?_)
      · rw [if_neg c7] at hf
        refine J_iload_n Z.1 2 dX13_doAll_40 rfl rfl ?_
        refine J_iconst Z.1 (v := 1) (by decide) dX13_doAll_41 ?_
        refine J_iadd Z.1 dX13_doAll_42 ?_
        refine J_lv [0, 1] rfl ?_
        exact pX13_doAll_o_b43_ok Z hK hO hKO t0 hk2 _ _ hf
      · rw [if_pos c7] at hf
        refine J_aload_n Z.1 0 dX13_doAll_30 rfl rfl ?_
        refine J_iload_n Z.1 2 dX13_doAll_31 rfl rfl ?_
        refine J_bipush Z.1 (v := 7) (by decide) dX13_doAll_32 ?_
        obtain ⟨x8, q9, hf⟩ := bd_i hf
        refine J_callV (ci := 11) (as := [.int l3, .int 7]) (rest := []) (sy := [.int x8]) Z.1 dX13_doAll_34 cw_X13_381 (pX13_at_ok G (dk - 1) (by omega) q9) rfl rfl t0 (zG Z) rfl (by decide) (zF Z (by omega)) (zO Z (by omega) (by decide)) (zM _) Z.2.1 Z.2.1 rfl rfl ?_
        refine J_goto Z.1 43 dX13_doAll_37 (by decide) ?_
        refine J_lv [0, 1] rfl ?_
        exact pX13_doAll_o_b43_ok Z hK hO hKO t0 hk2 _ _ hf
def pX13_doAll_o_l2 (g : MT) (fO : CT → Nat → Int32 → Int32 → Option CT) (this : Nat) (p1 : Int32) (p2 : Int32) : Nat → Int32 → CT → Option CT
  | 0, _, _ => none
  | n + 1, l3, h => pX13_doAll_o_b2 g fO this p1 p2 (pX13_doAll_o_l2 g fO this p1 p2 n) l3 h
theorem pX13_doAll_o_l2_ok {X : Cx} {G : Gx} {dk : Nat} {g : MT} {h0 : CT} {this : Nat} {p1 : Int32} {p2 : Int32} (Z : Zx X G cX13_doAll RX13 4 dk none none g h0) (hK : 6 ≤ dk) {fO : CT → Nat → Int32 → Int32 → Option CT} {KO : Nat} (hO : ∀ (d : Nat), KO ≤ d → ∀ (h : CT) (this : Nat) (p1 : Int32) (p2 : Int32) (h1 : CT), fO h this p1 p2 = some h1 → Ctr G d yX13_doAll cX13_doAll 4 none [va_rf (some this), .int p1, .int p2] g h none g h1) (hKO : KO + 3 ≤ dk) (t0 : gT g this = 12) : ∀ (n : Nat) (l3 : Int32) (h : CT), pX13_doAll_o_l2 g fO this p1 p2 n l3 h = some h0 → J X g h 2 [(0, va_rf (some this)), (2, .int p2), (3, .int l3)] [] := by
  intro n
  induction n with
  | zero => intro l3 h hf; cases hf
  | succ n ih => intro l3 h hf; exact pX13_doAll_o_b2_ok Z hK hO hKO t0 ih l3 h hf
def pX13_doAll_o (g : MT) (fO : CT → Nat → Int32 → Int32 → Option CT) (h : CT) (this : Nat) (p1 : Int32) (p2 : Int32) : Option CT := tg g this 12 (pX13_doAll_o_l2 g fO this p1 p2  FUEL p1 h)
set_option maxRecDepth 10000 in
set_option maxHeartbeats 4000000 in
theorem pX13_doAll_o_ok (G : Gx) (dk : Nat) (hK : 6 ≤ dk) {g : MT} {fO : CT → Nat → Int32 → Int32 → Option CT} {KO : Nat} (hO : ∀ (d : Nat), KO ≤ d → ∀ (h : CT) (this : Nat) (p1 : Int32) (p2 : Int32) (h1 : CT), fO h this p1 p2 = some h1 → Ctr G d yX13_doAll cX13_doAll 4 none [va_rf (some this), .int p1, .int p2] g h none g h1) (hKO : KO + 3 ≤ dk) {h h0 : CT} {this : Nat} {p1 : Int32} {p2 : Int32} (hf : pX13_doAll_o g fO h this p1 p2 = some h0) : Ctr G dk yX13_doAll cX13_doAll 4 none [va_rf (some this), .int p1, .int p2] g h none g h0 := by
  refine Ctr.ofZ (lv := [(0, va_rf (some this)), (1, .int p1), (2, .int p2)]) (by decide +kernel) (by simp [cat_i, cat_l, cat_d, cat_rf]) rfl fun X Z => ?_
  unfold pX13_doAll_o at hf
  obtain ⟨t0, hf⟩ := tg_i hf
  refine J_iload_n Z.1 1 dX13_doAll_0 rfl rfl ?_
  refine J_istore_n Z.1 (lv2 := [(3, .int p1), (0, va_rf (some this)), (1, .int p1), (2, .int p2)]) dX13_doAll_1 rfl (zL Z (by decide)) rfl ?_
  refine J_lv [1, 3, 0] rfl ?_
  exact pX13_doAll_o_l2_ok Z hK hO hKO t0  FUEL _ _ hf
def pX13_doAll_r (g : MT) : Nat → CT → Nat → Int32 → Int32 → Option CT
  | 0, _, _, _, _ => none
  | n + 1, h, this, p1, p2 => pX13_doAll_o g (pX13_doAll_r g n) h this p1 p2
theorem pX13_doAll_r_ok (G : Gx) {g : MT} : ∀ (n : Nat) (d : Nat), 6 + 3 * n ≤ d → ∀ (h : CT) (this : Nat) (p1 : Int32) (p2 : Int32) (h0 : CT), pX13_doAll_r g n h this p1 p2 = some h0 → Ctr G d yX13_doAll cX13_doAll 4 none [va_rf (some this), .int p1, .int p2] g h none g h0 := by
  intro n
  induction n with
  | zero => intro d hd h this p1 p2 h0 hf; cases hf
  | succ n ih => intro d hd h this p1 p2 h0 hf; exact pX13_doAll_o_ok G d (by omega) (KO := 6 + 3 * n) ih (by omega) hf
def pX13_doAll (g : MT) (h : CT) (this : Nat) (p1 : Int32) (p2 : Int32) : Option CT := pX13_doAll_r g RFUEL h this p1 p2
theorem pX13_doAll_ok (G : Gx) (dk : Nat) (hK : 126 ≤ dk) {g : MT} {h h0 : CT} {this : Nat} {p1 : Int32} {p2 : Int32} (hf : pX13_doAll g h this p1 p2 = some h0) : Ctr G dk yX13_doAll cX13_doAll 4 none [va_rf (some this), .int p1, .int p2] g h none g h0 := pX13_doAll_r_ok G RFUEL dk (by unfold RFUEL; omega) _ _ _ _ _ hf
theorem dX13_runs_0 : decode cX13_runs 0 = .ok (.iconst 0, 1) := by decide +kernel
theorem dX13_runs_1 : decode cX13_runs 1 = .ok (.istore_n 1, 1) := by decide +kernel
theorem dX13_runs_2 : decode cX13_runs 2 = .ok (.iload_n 1, 1) := by decide +kernel
theorem dX13_runs_3 : decode cX13_runs 3 = .ok (.bipush 96, 2) := by decide +kernel
theorem dX13_runs_5 : decode cX13_runs 5 = .ok (.if_icmp .ge 23, 3) := by decide +kernel
theorem dX13_runs_8 : decode cX13_runs 8 = .ok (.aload_n 0, 1) := by decide +kernel
theorem dX13_runs_9 : decode cX13_runs 9 = .ok (.getfield 38, 3) := by decide +kernel
theorem dX13_runs_12 : decode cX13_runs 12 = .ok (.iload_n 1, 1) := by decide +kernel
theorem dX13_runs_13 : decode cX13_runs 13 = .ok (.iconst 0, 1) := by decide +kernel
theorem dX13_runs_14 : decode cX13_runs 14 = .ok (.iastore, 1) := by decide +kernel
theorem dX13_runs_15 : decode cX13_runs 15 = .ok (.aload_n 0, 1) := by decide +kernel
theorem dX13_runs_16 : decode cX13_runs 16 = .ok (.getfield 41, 3) := by decide +kernel
theorem dX13_runs_19 : decode cX13_runs 19 = .ok (.iload_n 1, 1) := by decide +kernel
theorem dX13_runs_20 : decode cX13_runs 20 = .ok (.iconst 0, 1) := by decide +kernel
theorem dX13_runs_21 : decode cX13_runs 21 = .ok (.iastore, 1) := by decide +kernel
theorem dX13_runs_22 : decode cX13_runs 22 = .ok (.iinc 1 1, 3) := by decide +kernel
theorem dX13_runs_25 : decode cX13_runs 25 = .ok (.goto (-23), 3) := by decide +kernel
theorem dX13_runs_28 : decode cX13_runs 28 = .ok (.iconst 0, 1) := by decide +kernel
theorem dX13_runs_29 : decode cX13_runs 29 = .ok (.istore_n 1, 1) := by decide +kernel
theorem dX13_runs_30 : decode cX13_runs 30 = .ok (.iload_n 1, 1) := by decide +kernel
theorem dX13_runs_31 : decode cX13_runs 31 = .ok (.iconst 4, 1) := by decide +kernel
theorem dX13_runs_32 : decode cX13_runs 32 = .ok (.if_icmp .ge 16, 3) := by decide +kernel
theorem dX13_runs_35 : decode cX13_runs 35 = .ok (.aload_n 0, 1) := by decide +kernel
theorem dX13_runs_36 : decode cX13_runs 36 = .ok (.getfield 44, 3) := by decide +kernel
theorem dX13_runs_39 : decode cX13_runs 39 = .ok (.iload_n 1, 1) := by decide +kernel
theorem dX13_runs_40 : decode cX13_runs 40 = .ok (.iconst 0, 1) := by decide +kernel
theorem dX13_runs_41 : decode cX13_runs 41 = .ok (.iastore, 1) := by decide +kernel
theorem dX13_runs_42 : decode cX13_runs 42 = .ok (.iinc 1 1, 3) := by decide +kernel
theorem dX13_runs_45 : decode cX13_runs 45 = .ok (.goto (-15), 3) := by decide +kernel
theorem dX13_runs_48 : decode cX13_runs 48 = .ok (.iconst 0, 1) := by decide +kernel
theorem dX13_runs_49 : decode cX13_runs 49 = .ok (.istore_n 1, 1) := by decide +kernel
theorem dX13_runs_50 : decode cX13_runs 50 = .ok (.iload_n 1, 1) := by decide +kernel
theorem dX13_runs_51 : decode cX13_runs 51 = .ok (.bipush 16, 2) := by decide +kernel
theorem dX13_runs_53 : decode cX13_runs 53 = .ok (.if_icmp .ge 17, 3) := by decide +kernel
theorem dX13_runs_56 : decode cX13_runs 56 = .ok (.aload_n 0, 1) := by decide +kernel
theorem dX13_runs_57 : decode cX13_runs 57 = .ok (.getfield 47, 3) := by decide +kernel
theorem dX13_runs_60 : decode cX13_runs 60 = .ok (.iload_n 1, 1) := by decide +kernel
theorem dX13_runs_61 : decode cX13_runs 61 = .ok (.bipush (-12), 2) := by decide +kernel
theorem dX13_runs_63 : decode cX13_runs 63 = .ok (.iastore, 1) := by decide +kernel
theorem dX13_runs_64 : decode cX13_runs 64 = .ok (.iinc 1 1, 3) := by decide +kernel
theorem dX13_runs_67 : decode cX13_runs 67 = .ok (.goto (-17), 3) := by decide +kernel
theorem dX13_runs_70 : decode cX13_runs 70 = .ok (.iconst 0, 1) := by decide +kernel
theorem dX13_runs_71 : decode cX13_runs 71 = .ok (.istore_n 1, 1) := by decide +kernel
theorem dX13_runs_72 : decode cX13_runs 72 = .ok (.iload_n 1, 1) := by decide +kernel
theorem dX13_runs_73 : decode cX13_runs 73 = .ok (.bipush 30, 2) := by decide +kernel
theorem dX13_runs_75 : decode cX13_runs 75 = .ok (.if_icmp .ge 16, 3) := by decide +kernel
theorem dX13_runs_78 : decode cX13_runs 78 = .ok (.aload_n 0, 1) := by decide +kernel
theorem dX13_runs_79 : decode cX13_runs 79 = .ok (.getfield 50, 3) := by decide +kernel
theorem dX13_runs_82 : decode cX13_runs 82 = .ok (.iload_n 1, 1) := by decide +kernel
theorem dX13_runs_83 : decode cX13_runs 83 = .ok (.iconst (-1), 1) := by decide +kernel
theorem dX13_runs_84 : decode cX13_runs 84 = .ok (.iastore, 1) := by decide +kernel
theorem dX13_runs_85 : decode cX13_runs 85 = .ok (.iinc 1 1, 3) := by decide +kernel
theorem dX13_runs_88 : decode cX13_runs 88 = .ok (.goto (-16), 3) := by decide +kernel
theorem dX13_runs_91 : decode cX13_runs 91 = .ok (.aload_n 0, 1) := by decide +kernel
theorem dX13_runs_92 : decode cX13_runs 92 = .ok (.iconst 0, 1) := by decide +kernel
theorem dX13_runs_93 : decode cX13_runs 93 = .ok (.putfield 404, 3) := by decide +kernel
theorem dX13_runs_96 : decode cX13_runs 96 = .ok (.aload_n 0, 1) := by decide +kernel
theorem dX13_runs_97 : decode cX13_runs 97 = .ok (.iconst 0, 1) := by decide +kernel
theorem dX13_runs_98 : decode cX13_runs 98 = .ok (.putfield 407, 3) := by decide +kernel
theorem dX13_runs_101 : decode cX13_runs 101 = .ok (.aload_n 0, 1) := by decide +kernel
theorem dX13_runs_102 : decode cX13_runs 102 = .ok (.iconst 0, 1) := by decide +kernel
theorem dX13_runs_103 : decode cX13_runs 103 = .ok (.putfield 401, 3) := by decide +kernel
theorem dX13_runs_106 : decode cX13_runs 106 = .ok (.aload_n 0, 1) := by decide +kernel
theorem dX13_runs_107 : decode cX13_runs 107 = .ok (.iconst (-1), 1) := by decide +kernel
theorem dX13_runs_108 : decode cX13_runs 108 = .ok (.putfield 398, 3) := by decide +kernel
theorem dX13_runs_111 : decode cX13_runs 111 = .ok (.aload_n 0, 1) := by decide +kernel
theorem dX13_runs_112 : decode cX13_runs 112 = .ok (.iconst 0, 1) := by decide +kernel
theorem dX13_runs_113 : decode cX13_runs 113 = .ok (.putfield 418, 3) := by decide +kernel
theorem dX13_runs_116 : decode cX13_runs 116 = .ok (.aload_n 0, 1) := by decide +kernel
theorem dX13_runs_117 : decode cX13_runs 117 = .ok (.iconst 0, 1) := by decide +kernel
theorem dX13_runs_118 : decode cX13_runs 118 = .ok (.putfield 366, 3) := by decide +kernel
theorem dX13_runs_121 : decode cX13_runs 121 = .ok (.aload_n 0, 1) := by decide +kernel
theorem dX13_runs_122 : decode cX13_runs 122 = .ok (.iconst 0, 1) := by decide +kernel
theorem dX13_runs_123 : decode cX13_runs 123 = .ok (.putfield 441, 3) := by decide +kernel
theorem dX13_runs_126 : decode cX13_runs 126 = .ok (.aload_n 0, 1) := by decide +kernel
theorem dX13_runs_127 : decode cX13_runs 127 = .ok (.iconst 0, 1) := by decide +kernel
theorem dX13_runs_128 : decode cX13_runs 128 = .ok (.putfield 521, 3) := by decide +kernel
theorem dX13_runs_131 : decode cX13_runs 131 = .ok (.aload_n 0, 1) := by decide +kernel
theorem dX13_runs_132 : decode cX13_runs 132 = .ok (.iconst 0, 1) := by decide +kernel
theorem dX13_runs_133 : decode cX13_runs 133 = .ok (.putfield 369, 3) := by decide +kernel
theorem dX13_runs_136 : decode cX13_runs 136 = .ok (.aload_n 0, 1) := by decide +kernel
theorem dX13_runs_137 : decode cX13_runs 137 = .ok (.iconst 0, 1) := by decide +kernel
theorem dX13_runs_138 : decode cX13_runs 138 = .ok (.putfield 378, 3) := by decide +kernel
theorem dX13_runs_141 : decode cX13_runs 141 = .ok (.aload_n 0, 1) := by decide +kernel
theorem dX13_runs_142 : decode cX13_runs 142 = .ok (.iconst 0, 1) := by decide +kernel
theorem dX13_runs_143 : decode cX13_runs 143 = .ok (.aload_n 0, 1) := by decide +kernel
theorem dX13_runs_144 : decode cX13_runs 144 = .ok (.getfield 31, 3) := by decide +kernel
theorem dX13_runs_147 : decode cX13_runs 147 = .ok (.iconst 5, 1) := by decide +kernel
theorem dX13_runs_148 : decode cX13_runs 148 = .ok (.iaload, 1) := by decide +kernel
theorem dX13_runs_149 : decode cX13_runs 149 = .ok (.invokevirtual 529, 3) := by decide +kernel
theorem dX13_runs_152 : decode cX13_runs 152 = .ok (.return_, 1) := by decide +kernel
def pX13_runs_b72 (g : MT) (this : Nat) (k72 : Int32 → CT → Option CT) (l1 : Int32) (h : CT) : Option CT := if 30 ≤ l1 then lt (sI h this 29 0) fun h2 => (lt (sI h2 this 30 0) fun h3 => (lt (sI h3 this 31 0) fun h4 => (lt (sI h4 this 32 (-1)) fun h5 => (lt (sI h5 this 33 0) fun h6 => (lt (sI h6 this 34 0) fun h7 => (lt (sI h7 this 35 0) fun h8 => (lt (sI h8 this 36 0) fun h9 => (lt (sI h9 this 37 0) fun h10 => (lt (sI h10 this 40 0) fun h11 => (lt (hR h11 this 19) fun r12 => (nn r12 fun a12 => (tg g a12 20 (ix (gL g a12) 5 (bd (pX13_doAll g h11 this 0 (hI h11 a12 (Int32.toNatClampNeg 5))) fun h15 => (some h15))))))))))))))) else lt (hR h this 27) fun r17 => (nn r17 fun a17 => (tg g a17 20 (ix (gL g a17) l1 (lt (sI h a17 (Int32.toNatClampNeg l1) (-1)) fun h20 => (lt (l1 + 1) fun x21 => (k72 x21 h20))))))
set_option maxRecDepth 10000 in
set_option maxHeartbeats 4000000 in
theorem pX13_runs_b72_ok {X : Cx} {G : Gx} {dk : Nat} {g : MT} {h0 : CT} {this : Nat} {k72 : Int32 → CT → Option CT} (Z : Zx X G cX13_runs RX13 2 dk none none g h0) (hK : 127 ≤ dk) (t0 : gT g this = 12) (hk72 : ∀ (l1 : Int32) (h : CT), k72 l1 h = some h0 → J X g h 72 [(0, va_rf (some this)), (1, .int l1)] []) (l1 : Int32) (h : CT) (hf : pX13_runs_b72 g this k72 l1 h = some h0) : J X g h 72 [(0, va_rf (some this)), (1, .int l1)] [] := by
  unfold pX13_runs_b72 at hf
  refine J_iload_n Z.1 1 dX13_runs_72 rfl rfl ?_
  refine J_bipush Z.1 (v := 30) (by decide) dX13_runs_73 ?_
  refine J_icmp_ge Z.1 91 dX13_runs_75 (by decide) (fun c1 => ?_) (fun c1 => ?_)
  · rw [if_pos c1] at hf
    refine J_aload_n Z.1 0 dX13_runs_91 rfl rfl ?_
    refine J_iconst Z.1 (v := 0) (by decide) dX13_runs_92 ?_
    refine J_putI Z.1 dX13_runs_93 fl_X13_404 (fun q => by cases q) t0 rfl rfl (congrArg Value.int (hI_s _ _ _ _)) ?_
    refine J_th (fun h2 eh2 => ?_)
    replace hf := lt_i hf h2 eh2
    refine J_aload_n Z.1 0 dX13_runs_96 rfl rfl ?_
    refine J_iconst Z.1 (v := 0) (by decide) dX13_runs_97 ?_
    refine J_putI Z.1 dX13_runs_98 fl_X13_407 (fun q => by cases q) t0 rfl rfl (congrArg Value.int (hI_s _ _ _ _)) ?_
    refine J_th (fun h3 eh3 => ?_)
    replace hf := lt_i hf h3 eh3
    refine J_aload_n Z.1 0 dX13_runs_101 rfl rfl ?_
    refine J_iconst Z.1 (v := 0) (by decide) dX13_runs_102 ?_
    refine J_putI Z.1 dX13_runs_103 fl_X13_401 (fun q => by cases q) t0 rfl rfl (congrArg Value.int (hI_s _ _ _ _)) ?_
    refine J_th (fun h4 eh4 => ?_)
    replace hf := lt_i hf h4 eh4
    refine J_aload_n Z.1 0 dX13_runs_106 rfl rfl ?_
    refine J_iconst Z.1 (v := (-1)) (by decide) dX13_runs_107 ?_
    refine J_putI Z.1 dX13_runs_108 fl_X13_398 (fun q => by cases q) t0 rfl rfl (congrArg Value.int (hI_s _ _ _ _)) ?_
    refine J_th (fun h5 eh5 => ?_)
    replace hf := lt_i hf h5 eh5
    refine J_aload_n Z.1 0 dX13_runs_111 rfl rfl ?_
    refine J_iconst Z.1 (v := 0) (by decide) dX13_runs_112 ?_
    refine J_putI Z.1 dX13_runs_113 fl_X13_418 (fun q => by cases q) t0 rfl rfl (congrArg Value.int (hI_s _ _ _ _)) ?_
    refine J_th (fun h6 eh6 => ?_)
    replace hf := lt_i hf h6 eh6
    refine J_aload_n Z.1 0 dX13_runs_116 rfl rfl ?_
    refine J_iconst Z.1 (v := 0) (by decide) dX13_runs_117 ?_
    refine J_putI Z.1 dX13_runs_118 fl_X13_366 (fun q => by cases q) t0 rfl rfl (congrArg Value.int (hI_s _ _ _ _)) ?_
    refine J_th (fun h7 eh7 => ?_)
    replace hf := lt_i hf h7 eh7
    refine J_aload_n Z.1 0 dX13_runs_121 rfl rfl ?_
    refine J_iconst Z.1 (v := 0) (by decide) dX13_runs_122 ?_
    refine J_putI Z.1 dX13_runs_123 fl_X13_441 (fun q => by cases q) t0 rfl rfl (congrArg Value.int (hI_s _ _ _ _)) ?_
    refine J_th (fun h8 eh8 => ?_)
    replace hf := lt_i hf h8 eh8
    refine J_aload_n Z.1 0 dX13_runs_126 rfl rfl ?_
    refine J_iconst Z.1 (v := 0) (by decide) dX13_runs_127 ?_
    refine J_putI Z.1 dX13_runs_128 fl_X13_521 (fun q => by cases q) t0 rfl rfl (congrArg Value.int (hI_s _ _ _ _)) ?_
    refine J_th (fun h9 eh9 => ?_)
    replace hf := lt_i hf h9 eh9
    refine J_aload_n Z.1 0 dX13_runs_131 rfl rfl ?_
    refine J_iconst Z.1 (v := 0) (by decide) dX13_runs_132 ?_
    refine J_putI Z.1 dX13_runs_133 fl_X13_369 (fun q => by cases q) t0 rfl rfl (congrArg Value.int (hI_s _ _ _ _)) ?_
    refine J_th (fun h10 eh10 => ?_)
    replace hf := lt_i hf h10 eh10
    refine J_aload_n Z.1 0 dX13_runs_136 rfl rfl ?_
    refine J_iconst Z.1 (v := 0) (by decide) dX13_runs_137 ?_
    refine J_putI Z.1 dX13_runs_138 fl_X13_378 (fun q => by cases q) t0 (z_n (Or.inl rfl)) (z_f (Or.inl rfl)) (congrArg Value.int (hI_s _ _ _ _)) ?_
    refine J_th (fun h11 eh11 => ?_)
    replace hf := lt_i hf h11 eh11
    refine J_aload_n Z.1 0 dX13_runs_141 rfl rfl ?_
    refine J_iconst Z.1 (v := 0) (by decide) dX13_runs_142 ?_
    refine J_aload_n Z.1 0 dX13_runs_143 rfl rfl ?_
    refine J_get (v := va_rf (hR h11 this 19)) Z.1 dX13_runs_144 fl_X13_31 t0 rfl ?_
    refine J_tr (fun r12 er12 => ?_)
    replace hf := lt_i hf r12 er12
    refine J_iconst Z.1 (v := 5) (by decide) dX13_runs_147 ?_
    obtain ⟨a12, rfl, hf⟩ := nn_i hf
    obtain ⟨t13, hf⟩ := tg_i hf
    obtain ⟨i14, hf⟩ := ix_i hf
    refine J_iaload Z.1 dX13_runs_148 t13 i14 ?_
    obtain ⟨h15, q16, hf⟩ := bd_i hf
    refine J_callV (ci := 11) (as := [.int 0, .int (hI h11 a12 (Int32.toNatClampNeg 5))]) (rest := []) (sy := []) Z.1 dX13_runs_149 cw_X13_529 (pX13_doAll_ok G (dk - 1) (by omega) q16) rfl rfl t0 (zG Z) rfl (by decide) (zF Z (by omega)) (zO Z (by omega) (by decide)) (zM _) Z.2.1 Z.2.1 rfl rfl ?_
    cases hf
    exact J_vret Z.1 Z.2.2.2.2.2 dX13_runs_152
  · rw [if_neg c1] at hf
    refine J_aload_n Z.1 0 dX13_runs_78 rfl rfl ?_
    refine J_get (v := va_rf (hR h this 27)) Z.1 dX13_runs_79 fl_X13_50 t0 rfl ?_
    refine J_tr (fun r17 er17 => ?_)
    replace hf := lt_i hf r17 er17
    refine J_iload_n Z.1 1 dX13_runs_82 rfl rfl ?_
    refine J_iconst Z.1 (v := (-1)) (by decide) dX13_runs_83 ?_
    obtain ⟨a17, rfl, hf⟩ := nn_i hf
    obtain ⟨t18, hf⟩ := tg_i hf
    obtain ⟨i19, hf⟩ := ix_i hf
    refine J_iastore Z.1 dX13_runs_84 t18 i19 ?_
    refine J_th (fun h20 eh20 => ?_)
    replace hf := lt_i hf h20 eh20
    refine J_iinc Z.1 (v := 1) (lv2 := [(1, .int (l1 + 1)), (0, va_rf (some this))]) 1 dX13_runs_85 rfl (by decide) (zL Z (by decide)) rfl ?_
    obtain ⟨x21, ex21⟩ : ∃ z, z = (l1 + 1) := ⟨_, rfl⟩
    replace hf := lt_i hf x21 ex21
    rw [← ex21]
    refine J_goto Z.1 72 dX13_runs_88 (by decide) ?_
    refine J_lv [1, 0] rfl ?_
    exact hk72 _ _ hf
def pX13_runs_l72 (g : MT) (this : Nat) : Nat → Int32 → CT → Option CT
  | 0, _, _ => none
  | n + 1, l1, h => pX13_runs_b72 g this (pX13_runs_l72 g this n) l1 h
theorem pX13_runs_l72_ok {X : Cx} {G : Gx} {dk : Nat} {g : MT} {h0 : CT} {this : Nat} (Z : Zx X G cX13_runs RX13 2 dk none none g h0) (hK : 127 ≤ dk) (t0 : gT g this = 12) : ∀ (n : Nat) (l1 : Int32) (h : CT), pX13_runs_l72 g this n l1 h = some h0 → J X g h 72 [(0, va_rf (some this)), (1, .int l1)] [] := by
  intro n
  induction n with
  | zero => intro l1 h hf; cases hf
  | succ n ih => intro l1 h hf; exact pX13_runs_b72_ok Z hK t0 ih l1 h hf
def pX13_runs_b50 (g : MT) (this : Nat) (k50 : Int32 → CT → Option CT) (l1 : Int32) (h : CT) : Option CT := if 16 ≤ l1 then pX13_runs_l72 g this  FUEL 0 h else lt (hR h this 26) fun r2 => (nn r2 fun a2 => (tg g a2 20 (ix (gL g a2) l1 (lt (sI h a2 (Int32.toNatClampNeg l1) (-12)) fun h5 => (lt (l1 + 1) fun x6 => (k50 x6 h5))))))
set_option maxRecDepth 10000 in
set_option maxHeartbeats 4000000 in
theorem pX13_runs_b50_ok {X : Cx} {G : Gx} {dk : Nat} {g : MT} {h0 : CT} {this : Nat} {k50 : Int32 → CT → Option CT} (Z : Zx X G cX13_runs RX13 2 dk none none g h0) (hK : 127 ≤ dk) (t0 : gT g this = 12) (hk50 : ∀ (l1 : Int32) (h : CT), k50 l1 h = some h0 → J X g h 50 [(0, va_rf (some this)), (1, .int l1)] []) (l1 : Int32) (h : CT) (hf : pX13_runs_b50 g this k50 l1 h = some h0) : J X g h 50 [(0, va_rf (some this)), (1, .int l1)] [] := by
  unfold pX13_runs_b50 at hf
  refine J_iload_n Z.1 1 dX13_runs_50 rfl rfl ?_
  refine J_bipush Z.1 (v := 16) (by decide) dX13_runs_51 ?_
  refine J_icmp_ge Z.1 70 dX13_runs_53 (by decide) (fun c1 => ?_) (fun c1 => ?_)
  · rw [if_pos c1] at hf
    refine J_iconst Z.1 (v := 0) (by decide) dX13_runs_70 ?_
    refine J_istore_n Z.1 (lv2 := [(1, .int 0), (0, va_rf (some this))]) dX13_runs_71 rfl (zL Z (by decide)) rfl ?_
    refine J_lv [1, 0] rfl ?_
    exact pX13_runs_l72_ok Z hK t0  FUEL _ _ hf
  · rw [if_neg c1] at hf
    refine J_aload_n Z.1 0 dX13_runs_56 rfl rfl ?_
    refine J_get (v := va_rf (hR h this 26)) Z.1 dX13_runs_57 fl_X13_47 t0 rfl ?_
    refine J_tr (fun r2 er2 => ?_)
    replace hf := lt_i hf r2 er2
    refine J_iload_n Z.1 1 dX13_runs_60 rfl rfl ?_
    refine J_bipush Z.1 (v := (-12)) (by decide) dX13_runs_61 ?_
    obtain ⟨a2, rfl, hf⟩ := nn_i hf
    obtain ⟨t3, hf⟩ := tg_i hf
    obtain ⟨i4, hf⟩ := ix_i hf
    refine J_iastore Z.1 dX13_runs_63 t3 i4 ?_
    refine J_th (fun h5 eh5 => ?_)
    replace hf := lt_i hf h5 eh5
    refine J_iinc Z.1 (v := 1) (lv2 := [(1, .int (l1 + 1)), (0, va_rf (some this))]) 1 dX13_runs_64 rfl (by decide) (zL Z (by decide)) rfl ?_
    obtain ⟨x6, ex6⟩ : ∃ z, z = (l1 + 1) := ⟨_, rfl⟩
    replace hf := lt_i hf x6 ex6
    rw [← ex6]
    refine J_goto Z.1 50 dX13_runs_67 (by decide) ?_
    refine J_lv [1, 0] rfl ?_
    exact hk50 _ _ hf
def pX13_runs_l50 (g : MT) (this : Nat) : Nat → Int32 → CT → Option CT
  | 0, _, _ => none
  | n + 1, l1, h => pX13_runs_b50 g this (pX13_runs_l50 g this n) l1 h
theorem pX13_runs_l50_ok {X : Cx} {G : Gx} {dk : Nat} {g : MT} {h0 : CT} {this : Nat} (Z : Zx X G cX13_runs RX13 2 dk none none g h0) (hK : 127 ≤ dk) (t0 : gT g this = 12) : ∀ (n : Nat) (l1 : Int32) (h : CT), pX13_runs_l50 g this n l1 h = some h0 → J X g h 50 [(0, va_rf (some this)), (1, .int l1)] [] := by
  intro n
  induction n with
  | zero => intro l1 h hf; cases hf
  | succ n ih => intro l1 h hf; exact pX13_runs_b50_ok Z hK t0 ih l1 h hf
def pX13_runs_b30 (g : MT) (this : Nat) (k30 : Int32 → CT → Option CT) (l1 : Int32) (h : CT) : Option CT := if 4 ≤ l1 then pX13_runs_l50 g this  FUEL 0 h else lt (hR h this 25) fun r2 => (nn r2 fun a2 => (tg g a2 20 (ix (gL g a2) l1 (lt (sI h a2 (Int32.toNatClampNeg l1) 0) fun h5 => (lt (l1 + 1) fun x6 => (k30 x6 h5))))))
set_option maxRecDepth 10000 in
set_option maxHeartbeats 4000000 in
theorem pX13_runs_b30_ok {X : Cx} {G : Gx} {dk : Nat} {g : MT} {h0 : CT} {this : Nat} {k30 : Int32 → CT → Option CT} (Z : Zx X G cX13_runs RX13 2 dk none none g h0) (hK : 127 ≤ dk) (t0 : gT g this = 12) (hk30 : ∀ (l1 : Int32) (h : CT), k30 l1 h = some h0 → J X g h 30 [(0, va_rf (some this)), (1, .int l1)] []) (l1 : Int32) (h : CT) (hf : pX13_runs_b30 g this k30 l1 h = some h0) : J X g h 30 [(0, va_rf (some this)), (1, .int l1)] [] := by
  unfold pX13_runs_b30 at hf
  refine J_iload_n Z.1 1 dX13_runs_30 rfl rfl ?_
  refine J_iconst Z.1 (v := 4) (by decide) dX13_runs_31 ?_
  refine J_icmp_ge Z.1 48 dX13_runs_32 (by decide) (fun c1 => ?_) (fun c1 => ?_)
  · rw [if_pos c1] at hf
    refine J_iconst Z.1 (v := 0) (by decide) dX13_runs_48 ?_
    refine J_istore_n Z.1 (lv2 := [(1, .int 0), (0, va_rf (some this))]) dX13_runs_49 rfl (zL Z (by decide)) rfl ?_
    refine J_lv [1, 0] rfl ?_
    exact pX13_runs_l50_ok Z hK t0  FUEL _ _ hf
  · rw [if_neg c1] at hf
    refine J_aload_n Z.1 0 dX13_runs_35 rfl rfl ?_
    refine J_get (v := va_rf (hR h this 25)) Z.1 dX13_runs_36 fl_X13_44 t0 rfl ?_
    refine J_tr (fun r2 er2 => ?_)
    replace hf := lt_i hf r2 er2
    refine J_iload_n Z.1 1 dX13_runs_39 rfl rfl ?_
    refine J_iconst Z.1 (v := 0) (by decide) dX13_runs_40 ?_
    obtain ⟨a2, rfl, hf⟩ := nn_i hf
    obtain ⟨t3, hf⟩ := tg_i hf
    obtain ⟨i4, hf⟩ := ix_i hf
    refine J_iastore Z.1 dX13_runs_41 t3 i4 ?_
    refine J_th (fun h5 eh5 => ?_)
    replace hf := lt_i hf h5 eh5
    refine J_iinc Z.1 (v := 1) (lv2 := [(1, .int (l1 + 1)), (0, va_rf (some this))]) 1 dX13_runs_42 rfl (by decide) (zL Z (by decide)) rfl ?_
    obtain ⟨x6, ex6⟩ : ∃ z, z = (l1 + 1) := ⟨_, rfl⟩
    replace hf := lt_i hf x6 ex6
    rw [← ex6]
    refine J_goto Z.1 30 dX13_runs_45 (by decide) ?_
    refine J_lv [1, 0] rfl ?_
    exact hk30 _ _ hf
def pX13_runs_l30 (g : MT) (this : Nat) : Nat → Int32 → CT → Option CT
  | 0, _, _ => none
  | n + 1, l1, h => pX13_runs_b30 g this (pX13_runs_l30 g this n) l1 h
theorem pX13_runs_l30_ok {X : Cx} {G : Gx} {dk : Nat} {g : MT} {h0 : CT} {this : Nat} (Z : Zx X G cX13_runs RX13 2 dk none none g h0) (hK : 127 ≤ dk) (t0 : gT g this = 12) : ∀ (n : Nat) (l1 : Int32) (h : CT), pX13_runs_l30 g this n l1 h = some h0 → J X g h 30 [(0, va_rf (some this)), (1, .int l1)] [] := by
  intro n
  induction n with
  | zero => intro l1 h hf; cases hf
  | succ n ih => intro l1 h hf; exact pX13_runs_b30_ok Z hK t0 ih l1 h hf
def pX13_runs_b2 (g : MT) (this : Nat) (k2 : Int32 → CT → Option CT) (l1 : Int32) (h : CT) : Option CT := if 96 ≤ l1 then pX13_runs_l30 g this  FUEL 0 h else lt (hR h this 23) fun r2 => (nn r2 fun a2 => (tg g a2 20 (ix (gL g a2) l1 (lt (sI h a2 (Int32.toNatClampNeg l1) 0) fun h5 => (lt (hR h5 this 24) fun r6 => (nn r6 fun a6 => (tg g a6 20 (ix (gL g a6) l1 (lt (sI h5 a6 (Int32.toNatClampNeg l1) 0) fun h9 => (lt (l1 + 1) fun x10 => (k2 x10 h9)))))))))))
set_option maxRecDepth 10000 in
set_option maxHeartbeats 4000000 in
theorem pX13_runs_b2_ok {X : Cx} {G : Gx} {dk : Nat} {g : MT} {h0 : CT} {this : Nat} {k2 : Int32 → CT → Option CT} (Z : Zx X G cX13_runs RX13 2 dk none none g h0) (hK : 127 ≤ dk) (t0 : gT g this = 12) (hk2 : ∀ (l1 : Int32) (h : CT), k2 l1 h = some h0 → J X g h 2 [(0, va_rf (some this)), (1, .int l1)] []) (l1 : Int32) (h : CT) (hf : pX13_runs_b2 g this k2 l1 h = some h0) : J X g h 2 [(0, va_rf (some this)), (1, .int l1)] [] := by
  unfold pX13_runs_b2 at hf
  refine J_iload_n Z.1 1 dX13_runs_2 rfl rfl ?_
  refine J_bipush Z.1 (v := 96) (by decide) dX13_runs_3 ?_
  refine J_icmp_ge Z.1 28 dX13_runs_5 (by decide) (fun c1 => ?_) (fun c1 => ?_)
  · rw [if_pos c1] at hf
    refine J_iconst Z.1 (v := 0) (by decide) dX13_runs_28 ?_
    refine J_istore_n Z.1 (lv2 := [(1, .int 0), (0, va_rf (some this))]) dX13_runs_29 rfl (zL Z (by decide)) rfl ?_
    refine J_lv [1, 0] rfl ?_
    exact pX13_runs_l30_ok Z hK t0  FUEL _ _ hf
  · rw [if_neg c1] at hf
    refine J_aload_n Z.1 0 dX13_runs_8 rfl rfl ?_
    refine J_get (v := va_rf (hR h this 23)) Z.1 dX13_runs_9 fl_X13_38 t0 rfl ?_
    refine J_tr (fun r2 er2 => ?_)
    replace hf := lt_i hf r2 er2
    refine J_iload_n Z.1 1 dX13_runs_12 rfl rfl ?_
    refine J_iconst Z.1 (v := 0) (by decide) dX13_runs_13 ?_
    obtain ⟨a2, rfl, hf⟩ := nn_i hf
    obtain ⟨t3, hf⟩ := tg_i hf
    obtain ⟨i4, hf⟩ := ix_i hf
    refine J_iastore Z.1 dX13_runs_14 t3 i4 ?_
    refine J_th (fun h5 eh5 => ?_)
    replace hf := lt_i hf h5 eh5
    refine J_aload_n Z.1 0 dX13_runs_15 rfl rfl ?_
    refine J_get (v := va_rf (hR h5 this 24)) Z.1 dX13_runs_16 fl_X13_41 t0 rfl ?_
    refine J_tr (fun r6 er6 => ?_)
    replace hf := lt_i hf r6 er6
    refine J_iload_n Z.1 1 dX13_runs_19 rfl rfl ?_
    refine J_iconst Z.1 (v := 0) (by decide) dX13_runs_20 ?_
    obtain ⟨a6, rfl, hf⟩ := nn_i hf
    obtain ⟨t7, hf⟩ := tg_i hf
    obtain ⟨i8, hf⟩ := ix_i hf
    refine J_iastore Z.1 dX13_runs_21 t7 i8 ?_
    refine J_th (fun h9 eh9 => ?_)
    replace hf := lt_i hf h9 eh9
    refine J_iinc Z.1 (v := 1) (lv2 := [(1, .int (l1 + 1)), (0, va_rf (some this))]) 1 dX13_runs_22 rfl (by decide) (zL Z (by decide)) rfl ?_
    obtain ⟨x10, ex10⟩ : ∃ z, z = (l1 + 1) := ⟨_, rfl⟩
    replace hf := lt_i hf x10 ex10
    rw [← ex10]
    refine J_goto Z.1 2 dX13_runs_25 (by decide) ?_
    refine J_lv [1, 0] rfl ?_
    exact hk2 _ _ hf
def pX13_runs_l2 (g : MT) (this : Nat) : Nat → Int32 → CT → Option CT
  | 0, _, _ => none
  | n + 1, l1, h => pX13_runs_b2 g this (pX13_runs_l2 g this n) l1 h
theorem pX13_runs_l2_ok {X : Cx} {G : Gx} {dk : Nat} {g : MT} {h0 : CT} {this : Nat} (Z : Zx X G cX13_runs RX13 2 dk none none g h0) (hK : 127 ≤ dk) (t0 : gT g this = 12) : ∀ (n : Nat) (l1 : Int32) (h : CT), pX13_runs_l2 g this n l1 h = some h0 → J X g h 2 [(0, va_rf (some this)), (1, .int l1)] [] := by
  intro n
  induction n with
  | zero => intro l1 h hf; cases hf
  | succ n ih => intro l1 h hf; exact pX13_runs_b2_ok Z hK t0 ih l1 h hf
def pX13_runs (g : MT) (h : CT) (this : Nat) : Option CT := tg g this 12 (pX13_runs_l2 g this  FUEL 0 h)
set_option maxRecDepth 10000 in
set_option maxHeartbeats 4000000 in
theorem pX13_runs_ok (G : Gx) (dk : Nat) (hK : 127 ≤ dk) {g : MT} {h h0 : CT} {this : Nat} (hf : pX13_runs g h this = some h0) : Ctr G dk yX13_runs cX13_runs 2 none [va_rf (some this)] g h none g h0 := by
  refine Ctr.ofZ (lv := [(0, va_rf (some this))]) (by decide +kernel) (by simp [cat_i, cat_l, cat_d, cat_rf]) rfl fun X Z => ?_
  unfold pX13_runs at hf
  obtain ⟨t0, hf⟩ := tg_i hf
  refine J_iconst Z.1 (v := 0) (by decide) dX13_runs_0 ?_
  refine J_istore_n Z.1 (lv2 := [(1, .int 0), (0, va_rf (some this))]) dX13_runs_1 rfl (zL Z (by decide)) rfl ?_
  refine J_lv [1, 0] rfl ?_
  exact pX13_runs_l2_ok Z hK t0  FUEL _ _ hf
theorem dX13_run_0 : decode cX13_run 0 = .ok (.aload_n 0, 1) := by decide +kernel
theorem dX13_run_1 : decode cX13_run 1 = .ok (.iconst 0, 1) := by decide +kernel
theorem dX13_run_2 : decode cX13_run 2 = .ok (.putfield 71, 3) := by decide +kernel
theorem dX13_run_5 : decode cX13_run 5 = .ok (.aload_n 0, 1) := by decide +kernel
theorem dX13_run_6 : decode cX13_run 6 = .ok (.iconst 0, 1) := by decide +kernel
theorem dX13_run_7 : decode cX13_run 7 = .ok (.putfield 74, 3) := by decide +kernel
theorem dX13_run_10 : decode cX13_run 10 = .ok (.aload_n 0, 1) := by decide +kernel
theorem dX13_run_11 : decode cX13_run 11 = .ok (.getfield 31, 3) := by decide +kernel
theorem dX13_run_14 : decode cX13_run 14 = .ok (.iconst 5, 1) := by decide +kernel
theorem dX13_run_15 : decode cX13_run 15 = .ok (.iaload, 1) := by decide +kernel
theorem dX13_run_16 : decode cX13_run 16 = .ok (.ifCond .ne 10, 3) := by decide +kernel
theorem dX13_run_19 : decode cX13_run 19 = .ok (.aload_n 0, 1) := by decide +kernel
theorem dX13_run_20 : decode cX13_run 20 = .ok (.bipush 8, 2) := by decide +kernel
theorem dX13_run_22 : decode cX13_run 22 = .ok (.invokevirtual 268, 3) := by decide +kernel
theorem dX13_run_25 : decode cX13_run 25 = .ok (.ireturn, 1) := by decide +kernel
theorem dX13_run_26 : decode cX13_run 26 = .ok (.aload_n 0, 1) := by decide +kernel
theorem dX13_run_27 : decode cX13_run 27 = .ok (.invokevirtual 535, 3) := by decide +kernel
theorem dX13_run_30 : decode cX13_run 30 = .ok (.aload_n 0, 1) := by decide +kernel
theorem dX13_run_31 : decode cX13_run 31 = .ok (.getfield 59, 3) := by decide +kernel
theorem dX13_run_34 : decode cX13_run 34 = .ok (.iconst 0, 1) := by decide +kernel
theorem dX13_run_35 : decode cX13_run 35 = .ok (.aload_n 0, 1) := by decide +kernel
theorem dX13_run_36 : decode cX13_run 36 = .ok (.getfield 366, 3) := by decide +kernel
theorem dX13_run_39 : decode cX13_run 39 = .ok (.iastore, 1) := by decide +kernel
theorem dX13_run_40 : decode cX13_run 40 = .ok (.aload_n 0, 1) := by decide +kernel
theorem dX13_run_41 : decode cX13_run 41 = .ok (.getfield 59, 3) := by decide +kernel
theorem dX13_run_44 : decode cX13_run 44 = .ok (.iconst 1, 1) := by decide +kernel
theorem dX13_run_45 : decode cX13_run 45 = .ok (.aload_n 0, 1) := by decide +kernel
theorem dX13_run_46 : decode cX13_run 46 = .ok (.getfield 441, 3) := by decide +kernel
theorem dX13_run_49 : decode cX13_run 49 = .ok (.iastore, 1) := by decide +kernel
theorem dX13_run_50 : decode cX13_run 50 = .ok (.aload_n 0, 1) := by decide +kernel
theorem dX13_run_51 : decode cX13_run 51 = .ok (.getfield 59, 3) := by decide +kernel
theorem dX13_run_54 : decode cX13_run 54 = .ok (.iconst 2, 1) := by decide +kernel
theorem dX13_run_55 : decode cX13_run 55 = .ok (.aload_n 0, 1) := by decide +kernel
theorem dX13_run_56 : decode cX13_run 56 = .ok (.getfield 521, 3) := by decide +kernel
theorem dX13_run_59 : decode cX13_run 59 = .ok (.iastore, 1) := by decide +kernel
theorem dX13_run_60 : decode cX13_run 60 = .ok (.aload_n 0, 1) := by decide +kernel
theorem dX13_run_61 : decode cX13_run 61 = .ok (.getfield 59, 3) := by decide +kernel
theorem dX13_run_64 : decode cX13_run 64 = .ok (.iconst 3, 1) := by decide +kernel
theorem dX13_run_65 : decode cX13_run 65 = .ok (.aload_n 0, 1) := by decide +kernel
theorem dX13_run_66 : decode cX13_run 66 = .ok (.getfield 369, 3) := by decide +kernel
theorem dX13_run_69 : decode cX13_run 69 = .ok (.iastore, 1) := by decide +kernel
theorem dX13_run_70 : decode cX13_run 70 = .ok (.aload_n 0, 1) := by decide +kernel
theorem dX13_run_71 : decode cX13_run 71 = .ok (.getfield 59, 3) := by decide +kernel
theorem dX13_run_74 : decode cX13_run 74 = .ok (.iconst 4, 1) := by decide +kernel
theorem dX13_run_75 : decode cX13_run 75 = .ok (.aload_n 0, 1) := by decide +kernel
theorem dX13_run_76 : decode cX13_run 76 = .ok (.getfield 369, 3) := by decide +kernel
theorem dX13_run_79 : decode cX13_run 79 = .ok (.ifCond .le 10, 3) := by decide +kernel
theorem dX13_run_82 : decode cX13_run 82 = .ok (.aload_n 0, 1) := by decide +kernel
theorem dX13_run_83 : decode cX13_run 83 = .ok (.getfield 372, 3) := by decide +kernel
theorem dX13_run_86 : decode cX13_run 86 = .ok (.goto 4, 3) := by decide +kernel
theorem dX13_run_89 : decode cX13_run 89 = .ok (.iconst (-1), 1) := by decide +kernel
theorem dX13_run_90 : decode cX13_run 90 = .ok (.iastore, 1) := by decide +kernel
theorem dX13_run_91 : decode cX13_run 91 = .ok (.aload_n 0, 1) := by decide +kernel
theorem dX13_run_92 : decode cX13_run 92 = .ok (.getfield 59, 3) := by decide +kernel
theorem dX13_run_95 : decode cX13_run 95 = .ok (.iconst 5, 1) := by decide +kernel
theorem dX13_run_96 : decode cX13_run 96 = .ok (.aload_n 0, 1) := by decide +kernel
theorem dX13_run_97 : decode cX13_run 97 = .ok (.getfield 369, 3) := by decide +kernel
theorem dX13_run_100 : decode cX13_run 100 = .ok (.ifCond .le 10, 3) := by decide +kernel
theorem dX13_run_103 : decode cX13_run 103 = .ok (.aload_n 0, 1) := by decide +kernel
theorem dX13_run_104 : decode cX13_run 104 = .ok (.getfield 375, 3) := by decide +kernel
theorem dX13_run_107 : decode cX13_run 107 = .ok (.goto 4, 3) := by decide +kernel
theorem dX13_run_110 : decode cX13_run 110 = .ok (.iconst (-1), 1) := by decide +kernel
theorem dX13_run_111 : decode cX13_run 111 = .ok (.iastore, 1) := by decide +kernel
theorem dX13_run_112 : decode cX13_run 112 = .ok (.iconst 0, 1) := by decide +kernel
theorem dX13_run_113 : decode cX13_run 113 = .ok (.istore_n 1, 1) := by decide +kernel
theorem dX13_run_114 : decode cX13_run 114 = .ok (.iload_n 1, 1) := by decide +kernel
theorem dX13_run_115 : decode cX13_run 115 = .ok (.bipush 30, 2) := by decide +kernel
theorem dX13_run_117 : decode cX13_run 117 = .ok (.if_icmp .ge 33, 3) := by decide +kernel
theorem dX13_run_120 : decode cX13_run 120 = .ok (.aload_n 0, 1) := by decide +kernel
theorem dX13_run_121 : decode cX13_run 121 = .ok (.getfield 62, 3) := by decide +kernel
theorem dX13_run_124 : decode cX13_run 124 = .ok (.iload_n 1, 1) := by decide +kernel
theorem dX13_run_125 : decode cX13_run 125 = .ok (.aload_n 0, 1) := by decide +kernel
theorem dX13_run_126 : decode cX13_run 126 = .ok (.getfield 50, 3) := by decide +kernel
theorem dX13_run_129 : decode cX13_run 129 = .ok (.iload_n 1, 1) := by decide +kernel
theorem dX13_run_130 : decode cX13_run 130 = .ok (.iaload, 1) := by decide +kernel
theorem dX13_run_131 : decode cX13_run 131 = .ok (.iastore, 1) := by decide +kernel
theorem dX13_run_132 : decode cX13_run 132 = .ok (.aload_n 0, 1) := by decide +kernel
theorem dX13_run_133 : decode cX13_run 133 = .ok (.getfield 65, 3) := by decide +kernel
theorem dX13_run_136 : decode cX13_run 136 = .ok (.iload_n 1, 1) := by decide +kernel
theorem dX13_run_137 : decode cX13_run 137 = .ok (.aload_n 0, 1) := by decide +kernel
theorem dX13_run_138 : decode cX13_run 138 = .ok (.getfield 53, 3) := by decide +kernel
theorem dX13_run_141 : decode cX13_run 141 = .ok (.iload_n 1, 1) := by decide +kernel
theorem dX13_run_142 : decode cX13_run 142 = .ok (.iaload, 1) := by decide +kernel
theorem dX13_run_143 : decode cX13_run 143 = .ok (.iastore, 1) := by decide +kernel
theorem dX13_run_144 : decode cX13_run 144 = .ok (.iinc 1 1, 3) := by decide +kernel
theorem dX13_run_147 : decode cX13_run 147 = .ok (.goto (-33), 3) := by decide +kernel
theorem dX13_run_150 : decode cX13_run 150 = .ok (.aload_n 0, 1) := by decide +kernel
theorem dX13_run_151 : decode cX13_run 151 = .ok (.iconst 1, 1) := by decide +kernel
theorem dX13_run_152 : decode cX13_run 152 = .ok (.putfield 538, 3) := by decide +kernel
theorem dX13_run_155 : decode cX13_run 155 = .ok (.aload_n 0, 1) := by decide +kernel
theorem dX13_run_156 : decode cX13_run 156 = .ok (.iconst 1, 1) := by decide +kernel
theorem dX13_run_157 : decode cX13_run 157 = .ok (.putfield 271, 3) := by decide +kernel
theorem dX13_run_160 : decode cX13_run 160 = .ok (.aload_n 0, 1) := by decide +kernel
theorem dX13_run_161 : decode cX13_run 161 = .ok (.getfield 369, 3) := by decide +kernel
theorem dX13_run_164 : decode cX13_run 164 = .ok (.ifCond .le 12, 3) := by decide +kernel
theorem dX13_run_167 : decode cX13_run 167 = .ok (.aload_n 0, 1) := by decide +kernel
theorem dX13_run_168 : decode cX13_run 168 = .ok (.bipush 12, 2) := by decide +kernel
theorem dX13_run_170 : decode cX13_run 170 = .ok (.invokevirtual 268, 3) := by decide +kernel
theorem dX13_run_173 : decode cX13_run 173 = .ok (.goto 7, 3) := by decide +kernel
theorem dX13_run_176 : decode cX13_run 176 = .ok (.aload_n 0, 1) := by decide +kernel
theorem dX13_run_177 : decode cX13_run 177 = .ok (.getfield 521, 3) := by decide +kernel
theorem dX13_run_180 : decode cX13_run 180 = .ok (.ireturn, 1) := by decide +kernel
def pX13_run_b114 (g : MT) (this : Nat) (k114 : Int32 → CT → Option ((Int32) × CT)) (l1 : Int32) (h : CT) : Option ((Int32) × CT) := if 30 ≤ l1 then lt (sI h this 41 1) fun h2 => (lt (sI h2 this 22 1) fun h3 => (if (hI h3 this 37) ≤ 0 then some ((hI h3 this 36), h3) else bd2 (pX13_refuse g h3 this 12) fun x7 h5 => (some (x7, h5)))) else lt (hR h this 46) fun r8 => (lt (hR h this 27) fun r9 => (nn r9 fun a9 => (tg g a9 20 (ix (gL g a9) l1 (nn r8 fun a8 => (tg g a8 20 (ix (gL g a8) l1 (lt (sI h a8 (Int32.toNatClampNeg l1) (hI h a9 (Int32.toNatClampNeg l1))) fun h14 => (lt (hR h14 this 47) fun r15 => (lt (hR h14 this 28) fun r16 => (nn r16 fun a16 => (tg g a16 20 (ix (gL g a16) l1 (nn r15 fun a15 => (tg g a15 20 (ix (gL g a15) l1 (lt (sI h14 a15 (Int32.toNatClampNeg l1) (hI h14 a16 (Int32.toNatClampNeg l1))) fun h21 => (lt (l1 + 1) fun x22 => (k114 x22 h21)))))))))))))))))))
set_option maxRecDepth 10000 in
set_option maxHeartbeats 4000000 in
theorem pX13_run_b114_ok {X : Cx} {G : Gx} {dk : Nat} {g : MT} {r0 : Int32} {h0 : CT} {this : Nat} {k114 : Int32 → CT → Option ((Int32) × CT)} (Z : Zx X G cX13_run RX13 2 dk (some .int) (some (.int r0)) g h0) (hK : 128 ≤ dk) (t0 : gT g this = 12) (hk114 : ∀ (l1 : Int32) (h : CT), k114 l1 h = some (r0, h0) → J X g h 114 [(0, va_rf (some this)), (1, .int l1)] []) (l1 : Int32) (h : CT) (hf : pX13_run_b114 g this k114 l1 h = some (r0, h0)) : J X g h 114 [(0, va_rf (some this)), (1, .int l1)] [] := by
  unfold pX13_run_b114 at hf
  refine J_iload_n Z.1 1 dX13_run_114 rfl rfl ?_
  refine J_bipush Z.1 (v := 30) (by decide) dX13_run_115 ?_
  refine J_icmp_ge Z.1 150 dX13_run_117 (by decide) (fun c1 => ?_) (fun c1 => ?_)
  · rw [if_pos c1] at hf
    refine J_aload_n Z.1 0 dX13_run_150 rfl rfl ?_
    refine J_iconst Z.1 (v := 1) (by decide) dX13_run_151 ?_
    refine J_putI Z.1 dX13_run_152 fl_X13_538 (fun q => by cases q) t0 (z_n (Or.inr rfl)) (z_f (Or.inr rfl)) (congrArg Value.int (hI_s _ _ _ _)) ?_
    refine J_th (fun h2 eh2 => ?_)
    replace hf := lt_i hf h2 eh2
    refine J_aload_n Z.1 0 dX13_run_155 rfl rfl ?_
    refine J_iconst Z.1 (v := 1) (by decide) dX13_run_156 ?_
    refine J_putI Z.1 dX13_run_157 fl_X13_271 (fun q => by cases q) t0 (z_n (Or.inr rfl)) (z_f (Or.inr rfl)) (congrArg Value.int (hI_s _ _ _ _)) ?_
    refine J_th (fun h3 eh3 => ?_)
    replace hf := lt_i hf h3 eh3
    refine J_aload_n Z.1 0 dX13_run_160 rfl rfl ?_
    refine J_get (v := .int (hI h3 this 37)) Z.1 dX13_run_161 fl_X13_369 t0 rfl ?_
    refine J_if_le Z.1 176 dX13_run_164 (by decide) (fun c4 => ?_) (fun c4 => ?_)
    · rw [if_pos c4] at hf
      refine J_aload_n Z.1 0 dX13_run_176 rfl rfl ?_
      refine J_get (v := .int (hI h3 this 36)) Z.1 dX13_run_177 fl_X13_521 t0 rfl ?_
      cases hf
      exact J_iret Z.1 Z.2.2.2.2.2 dX13_run_180
    · rw [if_neg c4] at hf
      refine J_aload_n Z.1 0 dX13_run_167 rfl rfl ?_
      refine J_bipush Z.1 (v := 12) (by decide) dX13_run_168 ?_
      obtain ⟨x7, h5, q6, hf⟩ := bd2_i hf
      refine J_callV (ci := 11) (as := [.int 12]) (rest := []) (sy := [.int x7]) Z.1 dX13_run_170 cw_X13_268 (pX13_refuse_ok G (dk - 1) (by omega) q6) rfl rfl t0 (zG Z) rfl (by decide) (zF Z (by omega)) (zO Z (by omega) (by decide)) (zM _) Z.2.1 Z.2.1 rfl rfl ?_
      refine J_goto Z.1 180 dX13_run_173 (by decide) ?_
      cases hf
      exact J_iret Z.1 Z.2.2.2.2.2 dX13_run_180
  · rw [if_neg c1] at hf
    refine J_aload_n Z.1 0 dX13_run_120 rfl rfl ?_
    refine J_get (v := va_rf (hR h this 46)) Z.1 dX13_run_121 fl_X13_62 t0 rfl ?_
    refine J_tr (fun r8 er8 => ?_)
    replace hf := lt_i hf r8 er8
    refine J_iload_n Z.1 1 dX13_run_124 rfl rfl ?_
    refine J_aload_n Z.1 0 dX13_run_125 rfl rfl ?_
    refine J_get (v := va_rf (hR h this 27)) Z.1 dX13_run_126 fl_X13_50 t0 rfl ?_
    refine J_tr (fun r9 er9 => ?_)
    replace hf := lt_i hf r9 er9
    refine J_iload_n Z.1 1 dX13_run_129 rfl rfl ?_
    obtain ⟨a9, rfl, hf⟩ := nn_i hf
    obtain ⟨t10, hf⟩ := tg_i hf
    obtain ⟨i11, hf⟩ := ix_i hf
    refine J_iaload Z.1 dX13_run_130 t10 i11 ?_
    obtain ⟨a8, rfl, hf⟩ := nn_i hf
    obtain ⟨t12, hf⟩ := tg_i hf
    obtain ⟨i13, hf⟩ := ix_i hf
    refine J_iastore Z.1 dX13_run_131 t12 i13 ?_
    refine J_th (fun h14 eh14 => ?_)
    replace hf := lt_i hf h14 eh14
    refine J_aload_n Z.1 0 dX13_run_132 rfl rfl ?_
    refine J_get (v := va_rf (hR h14 this 47)) Z.1 dX13_run_133 fl_X13_65 t0 rfl ?_
    refine J_tr (fun r15 er15 => ?_)
    replace hf := lt_i hf r15 er15
    refine J_iload_n Z.1 1 dX13_run_136 rfl rfl ?_
    refine J_aload_n Z.1 0 dX13_run_137 rfl rfl ?_
    refine J_get (v := va_rf (hR h14 this 28)) Z.1 dX13_run_138 fl_X13_53 t0 rfl ?_
    refine J_tr (fun r16 er16 => ?_)
    replace hf := lt_i hf r16 er16
    refine J_iload_n Z.1 1 dX13_run_141 rfl rfl ?_
    obtain ⟨a16, rfl, hf⟩ := nn_i hf
    obtain ⟨t17, hf⟩ := tg_i hf
    obtain ⟨i18, hf⟩ := ix_i hf
    refine J_iaload Z.1 dX13_run_142 t17 i18 ?_
    obtain ⟨a15, rfl, hf⟩ := nn_i hf
    obtain ⟨t19, hf⟩ := tg_i hf
    obtain ⟨i20, hf⟩ := ix_i hf
    refine J_iastore Z.1 dX13_run_143 t19 i20 ?_
    refine J_th (fun h21 eh21 => ?_)
    replace hf := lt_i hf h21 eh21
    refine J_iinc Z.1 (v := 1) (lv2 := [(1, .int (l1 + 1)), (0, va_rf (some this))]) 1 dX13_run_144 rfl (by decide) (zL Z (by decide)) rfl ?_
    obtain ⟨x22, ex22⟩ : ∃ z, z = (l1 + 1) := ⟨_, rfl⟩
    replace hf := lt_i hf x22 ex22
    rw [← ex22]
    refine J_goto Z.1 114 dX13_run_147 (by decide) ?_
    refine J_lv [1, 0] rfl ?_
    exact hk114 _ _ hf
def pX13_run_l114 (g : MT) (this : Nat) : Nat → Int32 → CT → Option ((Int32) × CT)
  | 0, _, _ => none
  | n + 1, l1, h => pX13_run_b114 g this (pX13_run_l114 g this n) l1 h
theorem pX13_run_l114_ok {X : Cx} {G : Gx} {dk : Nat} {g : MT} {r0 : Int32} {h0 : CT} {this : Nat} (Z : Zx X G cX13_run RX13 2 dk (some .int) (some (.int r0)) g h0) (hK : 128 ≤ dk) (t0 : gT g this = 12) : ∀ (n : Nat) (l1 : Int32) (h : CT), pX13_run_l114 g this n l1 h = some (r0, h0) → J X g h 114 [(0, va_rf (some this)), (1, .int l1)] [] := by
  intro n
  induction n with
  | zero => intro l1 h hf; cases hf
  | succ n ih => intro l1 h hf; exact pX13_run_b114_ok Z hK t0 ih l1 h hf
def pX13_run_b111 (g : MT) (this : Nat) (r80 : Option Nat) (s1 : Int32) (s2 : Int32) (h : CT) : Option ((Int32) × CT) := nn r80 fun a80 => (tg g a80 20 (ix (gL g a80) s1 (lt (sI h a80 (Int32.toNatClampNeg s1) s2) fun h3 => (pX13_run_l114 g this  FUEL 0 h3))))
set_option maxRecDepth 10000 in
set_option maxHeartbeats 4000000 in
theorem pX13_run_b111_ok {X : Cx} {G : Gx} {dk : Nat} {g : MT} {r0 : Int32} {h0 : CT} {this : Nat} (Z : Zx X G cX13_run RX13 2 dk (some .int) (some (.int r0)) g h0) (hK : 128 ≤ dk) (t0 : gT g this = 12) (r80 : Option Nat) (s1 : Int32) (s2 : Int32) (h : CT) (hf : pX13_run_b111 g this r80 s1 s2 h = some (r0, h0)) : J X g h 111 [(0, va_rf (some this))] [.int s2, .int s1, va_rf r80] := by
  unfold pX13_run_b111 at hf
  obtain ⟨a80, rfl, hf⟩ := nn_i hf
  obtain ⟨t1, hf⟩ := tg_i hf
  obtain ⟨i2, hf⟩ := ix_i hf
  refine J_iastore Z.1 dX13_run_111 t1 i2 ?_
  refine J_th (fun h3 eh3 => ?_)
  replace hf := lt_i hf h3 eh3
  refine J_iconst Z.1 (v := 0) (by decide) dX13_run_112 ?_
  refine J_istore_n Z.1 (lv2 := [(1, .int 0), (0, va_rf (some this))]) dX13_run_113 rfl (zL Z (by decide)) rfl ?_
  refine J_lv [1, 0] rfl ?_
  exact pX13_run_l114_ok Z hK t0  FUEL _ _ hf
def pX13_run_b90 (g : MT) (this : Nat) (r80 : Option Nat) (s1 : Int32) (s2 : Int32) (h : CT) : Option ((Int32) × CT) := nn r80 fun a80 => (tg g a80 20 (ix (gL g a80) s1 (lt (sI h a80 (Int32.toNatClampNeg s1) s2) fun h3 => (lt (hR h3 this 45) fun r4 => (if (hI h3 this 37) ≤ 0 then pX13_run_b111 g this  r4 5 (-1) h3 else pX13_run_b111 g this  r4 5 (hI h3 this 39) h3)))))
set_option maxRecDepth 10000 in
set_option maxHeartbeats 4000000 in
theorem pX13_run_b90_ok {X : Cx} {G : Gx} {dk : Nat} {g : MT} {r0 : Int32} {h0 : CT} {this : Nat} (Z : Zx X G cX13_run RX13 2 dk (some .int) (some (.int r0)) g h0) (hK : 128 ≤ dk) (t0 : gT g this = 12) (r80 : Option Nat) (s1 : Int32) (s2 : Int32) (h : CT) (hf : pX13_run_b90 g this r80 s1 s2 h = some (r0, h0)) : J X g h 90 [(0, va_rf (some this))] [.int s2, .int s1, va_rf r80] := by
  unfold pX13_run_b90 at hf
  obtain ⟨a80, rfl, hf⟩ := nn_i hf
  obtain ⟨t1, hf⟩ := tg_i hf
  obtain ⟨i2, hf⟩ := ix_i hf
  refine J_iastore Z.1 dX13_run_90 t1 i2 ?_
  refine J_th (fun h3 eh3 => ?_)
  replace hf := lt_i hf h3 eh3
  refine J_aload_n Z.1 0 dX13_run_91 rfl rfl ?_
  refine J_get (v := va_rf (hR h3 this 45)) Z.1 dX13_run_92 fl_X13_59 t0 rfl ?_
  refine J_tr (fun r4 er4 => ?_)
  replace hf := lt_i hf r4 er4
  refine J_iconst Z.1 (v := 5) (by decide) dX13_run_95 ?_
  refine J_aload_n Z.1 0 dX13_run_96 rfl rfl ?_
  refine J_get (v := .int (hI h3 this 37)) Z.1 dX13_run_97 fl_X13_369 t0 rfl ?_
  refine J_if_le Z.1 110 dX13_run_100 (by decide) (fun c5 => ?_) (fun c5 => ?_)
  · rw [if_pos c5] at hf
    refine J_iconst Z.1 (v := (-1)) (by decide) dX13_run_110 ?_
    exact pX13_run_b111_ok Z hK t0  _ _ _ _ hf
  · rw [if_neg c5] at hf
    refine J_aload_n Z.1 0 dX13_run_103 rfl rfl ?_
    refine J_get (v := .int (hI h3 this 39)) Z.1 dX13_run_104 fl_X13_375 t0 rfl ?_
    refine J_goto Z.1 111 dX13_run_107 (by decide) ?_
    exact pX13_run_b111_ok Z hK t0  _ _ _ _ hf
def pX13_run (g : MT) (h : CT) (this : Nat) : Option ((Int32) × CT) := tg g this 12 (lt (sI h this 1 0) fun h1 => (lt (sI h1 this 0 0) fun h2 => (lt (hR h2 this 19) fun r3 => (nn r3 fun a3 => (tg g a3 20 (ix (gL g a3) 5 (if (hI h2 a3 (Int32.toNatClampNeg 5)) = 0 then bd2 (pX13_refuse g h2 this 8) fun x29 h27 => (some (x29, h27)) else bd (pX13_runs g h2 this) fun h7 => (lt (hR h7 this 45) fun r9 => (nn r9 fun a9 => (tg g a9 20 (ix (gL g a9) 0 (lt (sI h7 a9 (Int32.toNatClampNeg 0) (hI h7 this 34)) fun h12 => (lt (hR h12 this 45) fun r13 => (nn r13 fun a13 => (tg g a13 20 (ix (gL g a13) 1 (lt (sI h12 a13 (Int32.toNatClampNeg 1) (hI h12 this 35)) fun h16 => (lt (hR h16 this 45) fun r17 => (nn r17 fun a17 => (tg g a17 20 (ix (gL g a17) 2 (lt (sI h16 a17 (Int32.toNatClampNeg 2) (hI h16 this 36)) fun h20 => (lt (hR h20 this 45) fun r21 => (nn r21 fun a21 => (tg g a21 20 (ix (gL g a21) 3 (lt (sI h20 a21 (Int32.toNatClampNeg 3) (hI h20 this 37)) fun h24 => (lt (hR h24 this 45) fun r25 => (if (hI h24 this 37) ≤ 0 then pX13_run_b90 g this  r25 4 (-1) h24 else pX13_run_b90 g this  r25 4 (hI h24 this 38) h24)))))))))))))))))))))))))))))
set_option maxRecDepth 10000 in
set_option maxHeartbeats 4000000 in
theorem pX13_run_ok (G : Gx) (dk : Nat) (hK : 128 ≤ dk) {g : MT} {h h0 : CT} {this : Nat} {r0 : Int32} (hf : pX13_run g h this = some (r0, h0)) : Ctr G dk yX13_run cX13_run 2 (some .int) [va_rf (some this)] g h (some (.int r0)) g h0 := by
  refine Ctr.ofZ (lv := [(0, va_rf (some this))]) (by decide +kernel) (by simp [cat_i, cat_l, cat_d, cat_rf]) rfl fun X Z => ?_
  unfold pX13_run at hf
  obtain ⟨t0, hf⟩ := tg_i hf
  refine J_aload_n Z.1 0 dX13_run_0 rfl rfl ?_
  refine J_iconst Z.1 (v := 0) (by decide) dX13_run_1 ?_
  refine J_putI Z.1 dX13_run_2 fl_X13_71 (fun q => by cases q) t0 rfl rfl (congrArg Value.int (hI_s _ _ _ _)) ?_
  refine J_th (fun h1 eh1 => ?_)
  replace hf := lt_i hf h1 eh1
  refine J_aload_n Z.1 0 dX13_run_5 rfl rfl ?_
  refine J_iconst Z.1 (v := 0) (by decide) dX13_run_6 ?_
  refine J_putI Z.1 dX13_run_7 fl_X13_74 (fun q => by cases q) t0 rfl rfl (congrArg Value.int (hI_s _ _ _ _)) ?_
  refine J_th (fun h2 eh2 => ?_)
  replace hf := lt_i hf h2 eh2
  refine J_aload_n Z.1 0 dX13_run_10 rfl rfl ?_
  refine J_get (v := va_rf (hR h2 this 19)) Z.1 dX13_run_11 fl_X13_31 t0 rfl ?_
  refine J_tr (fun r3 er3 => ?_)
  replace hf := lt_i hf r3 er3
  refine J_iconst Z.1 (v := 5) (by decide) dX13_run_14 ?_
  obtain ⟨a3, rfl, hf⟩ := nn_i hf
  obtain ⟨t4, hf⟩ := tg_i hf
  obtain ⟨i5, hf⟩ := ix_i hf
  refine J_iaload Z.1 dX13_run_15 t4 i5 ?_
  refine J_if_ne Z.1 26 dX13_run_16 (by decide) (fun c6 => ?_) (fun c6 => ?_)
  · rw [if_neg c6] at hf
    refine J_aload_n Z.1 0 dX13_run_26 rfl rfl ?_
    obtain ⟨h7, q8, hf⟩ := bd_i hf
    refine J_callV (ci := 11) (as := []) (rest := []) (sy := []) Z.1 dX13_run_27 cw_X13_535 (pX13_runs_ok G (dk - 1) (by omega) q8) rfl rfl t0 (zG Z) rfl (by decide) (zF Z (by omega)) (zO Z (by omega) (by decide)) (zM _) Z.2.1 Z.2.1 rfl rfl ?_
    refine J_aload_n Z.1 0 dX13_run_30 rfl rfl ?_
    refine J_get (v := va_rf (hR h7 this 45)) Z.1 dX13_run_31 fl_X13_59 t0 rfl ?_
    refine J_tr (fun r9 er9 => ?_)
    replace hf := lt_i hf r9 er9
    refine J_iconst Z.1 (v := 0) (by decide) dX13_run_34 ?_
    refine J_aload_n Z.1 0 dX13_run_35 rfl rfl ?_
    refine J_get (v := .int (hI h7 this 34)) Z.1 dX13_run_36 fl_X13_366 t0 rfl ?_
    obtain ⟨a9, rfl, hf⟩ := nn_i hf
    obtain ⟨t10, hf⟩ := tg_i hf
    obtain ⟨i11, hf⟩ := ix_i hf
    refine J_iastore Z.1 dX13_run_39 t10 i11 ?_
    refine J_th (fun h12 eh12 => ?_)
    replace hf := lt_i hf h12 eh12
    refine J_aload_n Z.1 0 dX13_run_40 rfl rfl ?_
    refine J_get (v := va_rf (hR h12 this 45)) Z.1 dX13_run_41 fl_X13_59 t0 rfl ?_
    refine J_tr (fun r13 er13 => ?_)
    replace hf := lt_i hf r13 er13
    refine J_iconst Z.1 (v := 1) (by decide) dX13_run_44 ?_
    refine J_aload_n Z.1 0 dX13_run_45 rfl rfl ?_
    refine J_get (v := .int (hI h12 this 35)) Z.1 dX13_run_46 fl_X13_441 t0 rfl ?_
    obtain ⟨a13, rfl, hf⟩ := nn_i hf
    obtain ⟨t14, hf⟩ := tg_i hf
    obtain ⟨i15, hf⟩ := ix_i hf
    refine J_iastore Z.1 dX13_run_49 t14 i15 ?_
    refine J_th (fun h16 eh16 => ?_)
    replace hf := lt_i hf h16 eh16
    refine J_aload_n Z.1 0 dX13_run_50 rfl rfl ?_
    refine J_get (v := va_rf (hR h16 this 45)) Z.1 dX13_run_51 fl_X13_59 t0 rfl ?_
    refine J_tr (fun r17 er17 => ?_)
    replace hf := lt_i hf r17 er17
    refine J_iconst Z.1 (v := 2) (by decide) dX13_run_54 ?_
    refine J_aload_n Z.1 0 dX13_run_55 rfl rfl ?_
    refine J_get (v := .int (hI h16 this 36)) Z.1 dX13_run_56 fl_X13_521 t0 rfl ?_
    obtain ⟨a17, rfl, hf⟩ := nn_i hf
    obtain ⟨t18, hf⟩ := tg_i hf
    obtain ⟨i19, hf⟩ := ix_i hf
    refine J_iastore Z.1 dX13_run_59 t18 i19 ?_
    refine J_th (fun h20 eh20 => ?_)
    replace hf := lt_i hf h20 eh20
    refine J_aload_n Z.1 0 dX13_run_60 rfl rfl ?_
    refine J_get (v := va_rf (hR h20 this 45)) Z.1 dX13_run_61 fl_X13_59 t0 rfl ?_
    refine J_tr (fun r21 er21 => ?_)
    replace hf := lt_i hf r21 er21
    refine J_iconst Z.1 (v := 3) (by decide) dX13_run_64 ?_
    refine J_aload_n Z.1 0 dX13_run_65 rfl rfl ?_
    refine J_get (v := .int (hI h20 this 37)) Z.1 dX13_run_66 fl_X13_369 t0 rfl ?_
    obtain ⟨a21, rfl, hf⟩ := nn_i hf
    obtain ⟨t22, hf⟩ := tg_i hf
    obtain ⟨i23, hf⟩ := ix_i hf
    refine J_iastore Z.1 dX13_run_69 t22 i23 ?_
    refine J_th (fun h24 eh24 => ?_)
    replace hf := lt_i hf h24 eh24
    refine J_aload_n Z.1 0 dX13_run_70 rfl rfl ?_
    refine J_get (v := va_rf (hR h24 this 45)) Z.1 dX13_run_71 fl_X13_59 t0 rfl ?_
    refine J_tr (fun r25 er25 => ?_)
    replace hf := lt_i hf r25 er25
    refine J_iconst Z.1 (v := 4) (by decide) dX13_run_74 ?_
    refine J_aload_n Z.1 0 dX13_run_75 rfl rfl ?_
    refine J_get (v := .int (hI h24 this 37)) Z.1 dX13_run_76 fl_X13_369 t0 rfl ?_
    refine J_if_le Z.1 89 dX13_run_79 (by decide) (fun c26 => ?_) (fun c26 => ?_)
    · rw [if_pos c26] at hf
      refine J_iconst Z.1 (v := (-1)) (by decide) dX13_run_89 ?_
      exact pX13_run_b90_ok Z hK t0  _ _ _ _ hf
    · rw [if_neg c26] at hf
      refine J_aload_n Z.1 0 dX13_run_82 rfl rfl ?_
      refine J_get (v := .int (hI h24 this 38)) Z.1 dX13_run_83 fl_X13_372 t0 rfl ?_
      refine J_goto Z.1 90 dX13_run_86 (by decide) ?_
      exact pX13_run_b90_ok Z hK t0  _ _ _ _ hf
  · rw [if_pos c6] at hf
    refine J_aload_n Z.1 0 dX13_run_19 rfl rfl ?_
    refine J_bipush Z.1 (v := 8) (by decide) dX13_run_20 ?_
    obtain ⟨x29, h27, q28, hf⟩ := bd2_i hf
    refine J_callV (ci := 11) (as := [.int 8]) (rest := []) (sy := [.int x29]) Z.1 dX13_run_22 cw_X13_268 (pX13_refuse_ok G (dk - 1) (by omega) q28) rfl rfl t0 (zG Z) rfl (by decide) (zF Z (by omega)) (zO Z (by omega) (by decide)) (zM _) Z.2.1 Z.2.1 rfl rfl ?_
    cases hf
    exact J_iret Z.1 Z.2.2.2.2.2 dX13_run_25
theorem dX13_cyclesAside_0 : decode cX13_cyclesAside 0 = .ok (.aload_n 0, 1) := by decide +kernel
theorem dX13_cyclesAside_1 : decode cX13_cyclesAside 1 = .ok (.iconst 0, 1) := by decide +kernel
theorem dX13_cyclesAside_2 : decode cX13_cyclesAside 2 = .ok (.iconst 5, 1) := by decide +kernel
theorem dX13_cyclesAside_3 : decode cX13_cyclesAside 3 = .ok (.invokevirtual 589, 3) := by decide +kernel
theorem dX13_cyclesAside_6 : decode cX13_cyclesAside 6 = .ok (.iload_n 1, 1) := by decide +kernel
theorem dX13_cyclesAside_7 : decode cX13_cyclesAside 7 = .ok (.ifCond .lt 8, 3) := by decide +kernel
theorem dX13_cyclesAside_10 : decode cX13_cyclesAside 10 = .ok (.aload_n 0, 1) := by decide +kernel
theorem dX13_cyclesAside_11 : decode cX13_cyclesAside 11 = .ok (.iload_n 1, 1) := by decide +kernel
theorem dX13_cyclesAside_12 : decode cX13_cyclesAside 12 = .ok (.invokevirtual 592, 3) := by decide +kernel
theorem dX13_cyclesAside_15 : decode cX13_cyclesAside 15 = .ok (.aload_n 0, 1) := by decide +kernel
theorem dX13_cyclesAside_16 : decode cX13_cyclesAside 16 = .ok (.invokevirtual 535, 3) := by decide +kernel
theorem dX13_cyclesAside_19 : decode cX13_cyclesAside 19 = .ok (.aload_n 0, 1) := by decide +kernel
theorem dX13_cyclesAside_20 : decode cX13_cyclesAside 20 = .ok (.dup, 1) := by decide +kernel
theorem dX13_cyclesAside_21 : decode cX13_cyclesAside 21 = .ok (.getfield 595, 3) := by decide +kernel
theorem dX13_cyclesAside_24 : decode cX13_cyclesAside 24 = .ok (.aload_n 0, 1) := by decide +kernel
theorem dX13_cyclesAside_25 : decode cX13_cyclesAside 25 = .ok (.getfield 369, 3) := by decide +kernel
theorem dX13_cyclesAside_28 : decode cX13_cyclesAside 28 = .ok (.ifCond .le 7, 3) := by decide +kernel
theorem dX13_cyclesAside_31 : decode cX13_cyclesAside 31 = .ok (.iconst 1, 1) := by decide +kernel
theorem dX13_cyclesAside_32 : decode cX13_cyclesAside 32 = .ok (.goto 4, 3) := by decide +kernel
theorem dX13_cyclesAside_35 : decode cX13_cyclesAside 35 = .ok (.iconst 0, 1) := by decide +kernel
theorem dX13_cyclesAside_36 : decode cX13_cyclesAside 36 = .ok (.ior, 1) := by decide +kernel
theorem dX13_cyclesAside_37 : decode cX13_cyclesAside 37 = .ok (.putfield 595, 3) := by decide +kernel
theorem dX13_cyclesAside_40 : decode cX13_cyclesAside 40 = .ok (.aload_n 0, 1) := by decide +kernel
theorem dX13_cyclesAside_41 : decode cX13_cyclesAside 41 = .ok (.iconst 5, 1) := by decide +kernel
theorem dX13_cyclesAside_42 : decode cX13_cyclesAside 42 = .ok (.iconst 0, 1) := by decide +kernel
theorem dX13_cyclesAside_43 : decode cX13_cyclesAside 43 = .ok (.invokevirtual 589, 3) := by decide +kernel
theorem dX13_cyclesAside_46 : decode cX13_cyclesAside 46 = .ok (.aload_n 0, 1) := by decide +kernel
theorem dX13_cyclesAside_47 : decode cX13_cyclesAside 47 = .ok (.getfield 366, 3) := by decide +kernel
theorem dX13_cyclesAside_50 : decode cX13_cyclesAside 50 = .ok (.ireturn, 1) := by decide +kernel
def pX13_cyclesAside_b36 (g : MT) (this : Nat) (p1 : Int32) (s0 : Nat) (s1 : Int32) (s2 : Int32) (h : CT) : Option ((Int32) × CT) := bz (s1 ||| s2) (tg g s0 12 (lt (sI h s0 51 (s1 ||| s2)) fun h3 => (bd (pX13_copy g h3 this 5 0) fun h4 => (some ((hI h4 this 34), h4)))))
set_option maxRecDepth 10000 in
set_option maxHeartbeats 4000000 in
theorem pX13_cyclesAside_b36_ok {X : Cx} {G : Gx} {dk : Nat} {g : MT} {r0 : Int32} {h0 : CT} {this : Nat} {p1 : Int32} (Z : Zx X G cX13_cyclesAside RX13 2 dk (some .int) (some (.int r0)) g h0) (hK : 128 ≤ dk) (t0 : gT g this = 12) (s0 : Nat) (s1 : Int32) (s2 : Int32) (h : CT) (hf : pX13_cyclesAside_b36 g this p1 s0 s1 s2 h = some (r0, h0)) : J X g h 36 [(0, va_rf (some this))] [.int s2, .int s1, va_rf (some s0)] := by
  unfold pX13_cyclesAside_b36 at hf
  refine J_ior Z.1 dX13_cyclesAside_36 ?_
  obtain ⟨z1, hf⟩ := bz_i hf
  obtain ⟨t2, hf⟩ := tg_i hf
  refine J_putI Z.1 dX13_cyclesAside_37 fl_X13_595 (fun q => by cases q) t2 (z_n z1) (z_f z1) (congrArg Value.int (hI_s _ _ _ _)) ?_
  refine J_th (fun h3 eh3 => ?_)
  replace hf := lt_i hf h3 eh3
  refine J_aload_n Z.1 0 dX13_cyclesAside_40 rfl rfl ?_
  refine J_iconst Z.1 (v := 5) (by decide) dX13_cyclesAside_41 ?_
  refine J_iconst Z.1 (v := 0) (by decide) dX13_cyclesAside_42 ?_
  obtain ⟨h4, q5, hf⟩ := bd_i hf
  refine J_callV (ci := 11) (as := [.int 5, .int 0]) (rest := []) (sy := []) Z.1 dX13_cyclesAside_43 cw_X13_589 (pX13_copy_ok G (dk - 1) (by omega) q5) rfl rfl t0 (zG Z) rfl (by decide) (zF Z (by omega)) (zO Z (by omega) (by decide)) (zM _) Z.2.1 Z.2.1 rfl rfl ?_
  refine J_aload_n Z.1 0 dX13_cyclesAside_46 rfl rfl ?_
  refine J_get (v := .int (hI h4 this 34)) Z.1 dX13_cyclesAside_47 fl_X13_366 t0 rfl ?_
  cases hf
  exact J_iret Z.1 Z.2.2.2.2.2 dX13_cyclesAside_50
def pX13_cyclesAside_b15 (g : MT) (this : Nat) (p1 : Int32) (h : CT) : Option ((Int32) × CT) := bd (pX13_runs g h this) fun h1 => (if (hI h1 this 37) ≤ 0 then pX13_cyclesAside_b36 g this p1  this (hI h1 this 51) 0 h1 else pX13_cyclesAside_b36 g this p1  this (hI h1 this 51) 1 h1)
set_option maxRecDepth 10000 in
set_option maxHeartbeats 4000000 in
theorem pX13_cyclesAside_b15_ok {X : Cx} {G : Gx} {dk : Nat} {g : MT} {r0 : Int32} {h0 : CT} {this : Nat} {p1 : Int32} (Z : Zx X G cX13_cyclesAside RX13 2 dk (some .int) (some (.int r0)) g h0) (hK : 128 ≤ dk) (t0 : gT g this = 12) (h : CT) (hf : pX13_cyclesAside_b15 g this p1 h = some (r0, h0)) : J X g h 15 [(0, va_rf (some this))] [] := by
  unfold pX13_cyclesAside_b15 at hf
  refine J_aload_n Z.1 0 dX13_cyclesAside_15 rfl rfl ?_
  obtain ⟨h1, q2, hf⟩ := bd_i hf
  refine J_callV (ci := 11) (as := []) (rest := []) (sy := []) Z.1 dX13_cyclesAside_16 cw_X13_535 (pX13_runs_ok G (dk - 1) (by omega) q2) rfl rfl t0 (zG Z) rfl (by decide) (zF Z (by omega)) (zO Z (by omega) (by decide)) (zM _) Z.2.1 Z.2.1 rfl rfl ?_
  refine J_aload_n Z.1 0 dX13_cyclesAside_19 rfl rfl ?_
  refine J_dup Z.1 dX13_cyclesAside_20 rfl ?_
  refine J_get (v := .int (hI h1 this 51)) Z.1 dX13_cyclesAside_21 fl_X13_595 t0 rfl ?_
  refine J_aload_n Z.1 0 dX13_cyclesAside_24 rfl rfl ?_
  refine J_get (v := .int (hI h1 this 37)) Z.1 dX13_cyclesAside_25 fl_X13_369 t0 rfl ?_
  refine J_if_le Z.1 35 dX13_cyclesAside_28 (by decide) (fun c3 => ?_) (fun c3 => ?_)
  · rw [if_pos c3] at hf
    refine J_iconst Z.1 (v := 0) (by decide) dX13_cyclesAside_35 ?_
    exact pX13_cyclesAside_b36_ok Z hK t0  _ _ _ _ hf
  · rw [if_neg c3] at hf
    refine J_iconst Z.1 (v := 1) (by decide) dX13_cyclesAside_31 ?_
    refine J_goto Z.1 36 dX13_cyclesAside_32 (by decide) ?_
    exact pX13_cyclesAside_b36_ok Z hK t0  _ _ _ _ hf
def pX13_cyclesAside (g : MT) (h : CT) (this : Nat) (p1 : Int32) : Option ((Int32) × CT) := tg g this 12 (bd (pX13_copy g h this 0 5) fun h1 => (if p1 < 0 then pX13_cyclesAside_b15 g this p1  h1 else bd (pX13_exchanges g h1 this p1) fun h4 => (pX13_cyclesAside_b15 g this p1  h4)))
set_option maxRecDepth 10000 in
set_option maxHeartbeats 4000000 in
theorem pX13_cyclesAside_ok (G : Gx) (dk : Nat) (hK : 128 ≤ dk) {g : MT} {h h0 : CT} {this : Nat} {p1 : Int32} {r0 : Int32} (hf : pX13_cyclesAside g h this p1 = some (r0, h0)) : Ctr G dk yX13_cyclesAside cX13_cyclesAside 2 (some .int) [va_rf (some this), .int p1] g h (some (.int r0)) g h0 := by
  refine Ctr.ofZ (lv := [(0, va_rf (some this)), (1, .int p1)]) (by decide +kernel) (by simp [cat_i, cat_l, cat_d, cat_rf]) rfl fun X Z => ?_
  unfold pX13_cyclesAside at hf
  obtain ⟨t0, hf⟩ := tg_i hf
  refine J_aload_n Z.1 0 dX13_cyclesAside_0 rfl rfl ?_
  refine J_iconst Z.1 (v := 0) (by decide) dX13_cyclesAside_1 ?_
  refine J_iconst Z.1 (v := 5) (by decide) dX13_cyclesAside_2 ?_
  obtain ⟨h1, q2, hf⟩ := bd_i hf
  refine J_callV (ci := 11) (as := [.int 0, .int 5]) (rest := []) (sy := []) Z.1 dX13_cyclesAside_3 cw_X13_589 (pX13_copy_ok G (dk - 1) (by omega) q2) rfl rfl t0 (zG Z) rfl (by decide) (zF Z (by omega)) (zO Z (by omega) (by decide)) (zM _) Z.2.1 Z.2.1 rfl rfl ?_
  refine J_iload_n Z.1 1 dX13_cyclesAside_6 rfl rfl ?_
  refine J_if_lt Z.1 15 dX13_cyclesAside_7 (by decide) (fun c3 => ?_) (fun c3 => ?_)
  · rw [if_pos c3] at hf
    refine J_lv [0] rfl ?_
    exact pX13_cyclesAside_b15_ok Z hK t0  _ hf
  · rw [if_neg c3] at hf
    refine J_aload_n Z.1 0 dX13_cyclesAside_10 rfl rfl ?_
    refine J_iload_n Z.1 1 dX13_cyclesAside_11 rfl rfl ?_
    obtain ⟨h4, q5, hf⟩ := bd_i hf
    refine J_callV (ci := 11) (as := [.int p1]) (rest := []) (sy := []) Z.1 dX13_cyclesAside_12 cw_X13_592 (pX13_exchanges_ok G (dk - 1) (by omega) q5) rfl rfl t0 (zG Z) rfl (by decide) (zF Z (by omega)) (zO Z (by omega) (by decide)) (zM _) Z.2.1 Z.2.1 rfl rfl ?_
    refine J_lv [0] rfl ?_
    exact pX13_cyclesAside_b15_ok Z hK t0  _ hf
theorem dX13_gainOf_0 : decode cX13_gainOf 0 = .ok (.aload_n 0, 1) := by decide +kernel
theorem dX13_gainOf_1 : decode cX13_gainOf 1 = .ok (.aload_n 0, 1) := by decide +kernel
theorem dX13_gainOf_2 : decode cX13_gainOf 2 = .ok (.iload_n 1, 1) := by decide +kernel
theorem dX13_gainOf_3 : decode cX13_gainOf 3 = .ok (.invokevirtual 598, 3) := by decide +kernel
theorem dX13_gainOf_6 : decode cX13_gainOf 6 = .ok (.putfield 74, 3) := by decide +kernel
theorem dX13_gainOf_9 : decode cX13_gainOf 9 = .ok (.aload_n 0, 1) := by decide +kernel
theorem dX13_gainOf_10 : decode cX13_gainOf 10 = .ok (.getfield 74, 3) := by decide +kernel
theorem dX13_gainOf_13 : decode cX13_gainOf 13 = .ok (.ifCond .le 5, 3) := by decide +kernel
theorem dX13_gainOf_16 : decode cX13_gainOf 16 = .ok (.iconst (-1), 1) := by decide +kernel
theorem dX13_gainOf_17 : decode cX13_gainOf 17 = .ok (.ireturn, 1) := by decide +kernel
theorem dX13_gainOf_18 : decode cX13_gainOf 18 = .ok (.aload_n 0, 1) := by decide +kernel
theorem dX13_gainOf_19 : decode cX13_gainOf 19 = .ok (.iconst 0, 1) := by decide +kernel
theorem dX13_gainOf_20 : decode cX13_gainOf 20 = .ok (.putfield 595, 3) := by decide +kernel
theorem dX13_gainOf_23 : decode cX13_gainOf 23 = .ok (.aload_n 0, 1) := by decide +kernel
theorem dX13_gainOf_24 : decode cX13_gainOf 24 = .ok (.iconst (-1), 1) := by decide +kernel
theorem dX13_gainOf_25 : decode cX13_gainOf 25 = .ok (.invokevirtual 601, 3) := by decide +kernel
theorem dX13_gainOf_28 : decode cX13_gainOf 28 = .ok (.istore_n 2, 1) := by decide +kernel
theorem dX13_gainOf_29 : decode cX13_gainOf 29 = .ok (.aload_n 0, 1) := by decide +kernel
theorem dX13_gainOf_30 : decode cX13_gainOf 30 = .ok (.iload_n 1, 1) := by decide +kernel
theorem dX13_gainOf_31 : decode cX13_gainOf 31 = .ok (.invokevirtual 601, 3) := by decide +kernel
theorem dX13_gainOf_34 : decode cX13_gainOf 34 = .ok (.istore_n 3, 1) := by decide +kernel
theorem dX13_gainOf_35 : decode cX13_gainOf 35 = .ok (.aload_n 0, 1) := by decide +kernel
theorem dX13_gainOf_36 : decode cX13_gainOf 36 = .ok (.getfield 595, 3) := by decide +kernel
theorem dX13_gainOf_39 : decode cX13_gainOf 39 = .ok (.ifCond .eq 12, 3) := by decide +kernel
theorem dX13_gainOf_42 : decode cX13_gainOf 42 = .ok (.aload_n 0, 1) := by decide +kernel
theorem dX13_gainOf_43 : decode cX13_gainOf 43 = .ok (.bipush 12, 2) := by decide +kernel
theorem dX13_gainOf_45 : decode cX13_gainOf 45 = .ok (.invokevirtual 268, 3) := by decide +kernel
theorem dX13_gainOf_48 : decode cX13_gainOf 48 = .ok (.goto 6, 3) := by decide +kernel
theorem dX13_gainOf_51 : decode cX13_gainOf 51 = .ok (.iload_n 2, 1) := by decide +kernel
theorem dX13_gainOf_52 : decode cX13_gainOf 52 = .ok (.iload_n 3, 1) := by decide +kernel
theorem dX13_gainOf_53 : decode cX13_gainOf 53 = .ok (.isub, 1) := by decide +kernel
theorem dX13_gainOf_54 : decode cX13_gainOf 54 = .ok (.ireturn, 1) := by decide +kernel
def pX13_gainOf (g : MT) (h : CT) (this : Nat) (p1 : Int32) : Option ((Int32) × CT) := tg g this 12 (bd (pX13_whyNoSwap g h this p1) fun x1 => (lt (sI h this 0 x1) fun h3 => (if (hI h3 this 0) ≤ 0 then lt (sI h3 this 51 0) fun h5 => (bd2 (pX13_cyclesAside g h5 this (-1)) fun x8 h6 => (bd2 (pX13_cyclesAside g h6 this p1) fun x11 h9 => (if (hI h9 this 51) = 0 then some ((x8 - x11), h9) else bd2 (pX13_refuse g h9 this 12) fun x15 h13 => (some (x15, h13))))) else some ((-1), h3))))
set_option maxRecDepth 10000 in
set_option maxHeartbeats 4000000 in
theorem pX13_gainOf_ok (G : Gx) (dk : Nat) (hK : 129 ≤ dk) {g : MT} {h h0 : CT} {this : Nat} {p1 : Int32} {r0 : Int32} (hf : pX13_gainOf g h this p1 = some (r0, h0)) : Ctr G dk yX13_gainOf cX13_gainOf 4 (some .int) [va_rf (some this), .int p1] g h (some (.int r0)) g h0 := by
  refine Ctr.ofZ (lv := [(0, va_rf (some this)), (1, .int p1)]) (by decide +kernel) (by simp [cat_i, cat_l, cat_d, cat_rf]) rfl fun X Z => ?_
  unfold pX13_gainOf at hf
  obtain ⟨t0, hf⟩ := tg_i hf
  refine J_aload_n Z.1 0 dX13_gainOf_0 rfl rfl ?_
  refine J_aload_n Z.1 0 dX13_gainOf_1 rfl rfl ?_
  refine J_iload_n Z.1 1 dX13_gainOf_2 rfl rfl ?_
  obtain ⟨x1, q2, hf⟩ := bd_i hf
  refine J_callV (ci := 11) (as := [.int p1]) (rest := [va_rf (some this)]) (sy := [.int x1, va_rf (some this)]) Z.1 dX13_gainOf_3 cw_X13_598 (pX13_whyNoSwap_ok G (dk - 1) (by omega) q2) rfl rfl t0 (zG Z) rfl (by simp [cat_i, cat_l, cat_d, cat_rf]) (zF Z (by omega)) (zO Z (by omega) (by decide)) (zM _) Z.2.1 Z.2.1 rfl rfl ?_
  refine J_putI Z.1 dX13_gainOf_6 fl_X13_74 (fun q => by cases q) t0 rfl rfl (congrArg Value.int (hI_s _ _ _ _)) ?_
  refine J_th (fun h3 eh3 => ?_)
  replace hf := lt_i hf h3 eh3
  refine J_aload_n Z.1 0 dX13_gainOf_9 rfl rfl ?_
  refine J_get (v := .int (hI h3 this 0)) Z.1 dX13_gainOf_10 fl_X13_74 t0 rfl ?_
  refine J_if_le Z.1 18 dX13_gainOf_13 (by decide) (fun c4 => ?_) (fun c4 => ?_)
  · rw [if_pos c4] at hf
    refine J_aload_n Z.1 0 dX13_gainOf_18 rfl rfl ?_
    refine J_iconst Z.1 (v := 0) (by decide) dX13_gainOf_19 ?_
    refine J_putI Z.1 dX13_gainOf_20 fl_X13_595 (fun q => by cases q) t0 (z_n (Or.inl rfl)) (z_f (Or.inl rfl)) (congrArg Value.int (hI_s _ _ _ _)) ?_
    refine J_th (fun h5 eh5 => ?_)
    replace hf := lt_i hf h5 eh5
    refine J_aload_n Z.1 0 dX13_gainOf_23 rfl rfl ?_
    refine J_iconst Z.1 (v := (-1)) (by decide) dX13_gainOf_24 ?_
    obtain ⟨x8, h6, q7, hf⟩ := bd2_i hf
    refine J_callV (ci := 11) (as := [.int (-1)]) (rest := []) (sy := [.int x8]) Z.1 dX13_gainOf_25 cw_X13_601 (pX13_cyclesAside_ok G (dk - 1) (by omega) q7) rfl rfl t0 (zG Z) rfl (by decide) (zF Z (by omega)) (zO Z (by omega) (by decide)) (zM _) Z.2.1 Z.2.1 rfl rfl ?_
    refine J_istore_n Z.1 (lv2 := [(2, .int x8), (0, va_rf (some this)), (1, .int p1)]) dX13_gainOf_28 rfl (zL Z (by decide)) rfl ?_
    refine J_aload_n Z.1 1 dX13_gainOf_29 rfl rfl ?_
    refine J_iload_n Z.1 2 dX13_gainOf_30 rfl rfl ?_
    obtain ⟨x11, h9, q10, hf⟩ := bd2_i hf
    refine J_callV (ci := 11) (as := [.int p1]) (rest := []) (sy := [.int x11]) Z.1 dX13_gainOf_31 cw_X13_601 (pX13_cyclesAside_ok G (dk - 1) (by omega) q10) rfl rfl t0 (zG Z) rfl (by decide) (zF Z (by omega)) (zO Z (by omega) (by decide)) (zM _) Z.2.1 Z.2.1 rfl rfl ?_
    refine J_istore_n Z.1 (lv2 := [(3, .int x11), (2, .int x8), (0, va_rf (some this)), (1, .int p1)]) dX13_gainOf_34 rfl (zL Z (by decide)) rfl ?_
    refine J_aload_n Z.1 2 dX13_gainOf_35 rfl rfl ?_
    refine J_get (v := .int (hI h9 this 51)) Z.1 dX13_gainOf_36 fl_X13_595 t0 rfl ?_
    refine J_if_eq Z.1 51 dX13_gainOf_39 (by decide) (fun c12 => ?_) (fun c12 => ?_)
    · rw [if_pos c12] at hf
      refine J_iload_n Z.1 1 dX13_gainOf_51 rfl rfl ?_
      refine J_iload_n Z.1 0 dX13_gainOf_52 rfl rfl ?_
      refine J_isub Z.1 dX13_gainOf_53 ?_
      cases hf
      exact J_iret Z.1 Z.2.2.2.2.2 dX13_gainOf_54
    · rw [if_neg c12] at hf
      refine J_aload_n Z.1 2 dX13_gainOf_42 rfl rfl ?_
      refine J_bipush Z.1 (v := 12) (by decide) dX13_gainOf_43 ?_
      obtain ⟨x15, h13, q14, hf⟩ := bd2_i hf
      refine J_callV (ci := 11) (as := [.int 12]) (rest := []) (sy := [.int x15]) Z.1 dX13_gainOf_45 cw_X13_268 (pX13_refuse_ok G (dk - 1) (by omega) q14) rfl rfl t0 (zG Z) rfl (by decide) (zF Z (by omega)) (zO Z (by omega) (by decide)) (zM _) Z.2.1 Z.2.1 rfl rfl ?_
      refine J_goto Z.1 54 dX13_gainOf_48 (by decide) ?_
      cases hf
      exact J_iret Z.1 Z.2.2.2.2.2 dX13_gainOf_54
  · rw [if_neg c4] at hf
    refine J_iconst Z.1 (v := (-1)) (by decide) dX13_gainOf_16 ?_
    cases hf
    exact J_iret Z.1 Z.2.2.2.2.2 dX13_gainOf_17
theorem dX13_swapGain_0 : decode cX13_swapGain 0 = .ok (.aload_n 0, 1) := by decide +kernel
theorem dX13_swapGain_1 : decode cX13_swapGain 1 = .ok (.iconst 0, 1) := by decide +kernel
theorem dX13_swapGain_2 : decode cX13_swapGain 2 = .ok (.putfield 71, 3) := by decide +kernel
theorem dX13_swapGain_5 : decode cX13_swapGain 5 = .ok (.aload_n 0, 1) := by decide +kernel
theorem dX13_swapGain_6 : decode cX13_swapGain 6 = .ok (.iload_n 1, 1) := by decide +kernel
theorem dX13_swapGain_7 : decode cX13_swapGain 7 = .ok (.invokevirtual 604, 3) := by decide +kernel
theorem dX13_swapGain_10 : decode cX13_swapGain 10 = .ok (.ireturn, 1) := by decide +kernel
def pX13_swapGain (g : MT) (h : CT) (this : Nat) (p1 : Int32) : Option ((Int32) × CT) := tg g this 12 (lt (sI h this 1 0) fun h1 => (bd2 (pX13_gainOf g h1 this p1) fun x4 h2 => (some (x4, h2))))
set_option maxRecDepth 10000 in
set_option maxHeartbeats 4000000 in
theorem pX13_swapGain_ok (G : Gx) (dk : Nat) (hK : 130 ≤ dk) {g : MT} {h h0 : CT} {this : Nat} {p1 : Int32} {r0 : Int32} (hf : pX13_swapGain g h this p1 = some (r0, h0)) : Ctr G dk yX13_swapGain cX13_swapGain 2 (some .int) [va_rf (some this), .int p1] g h (some (.int r0)) g h0 := by
  refine Ctr.ofZ (lv := [(0, va_rf (some this)), (1, .int p1)]) (by decide +kernel) (by simp [cat_i, cat_l, cat_d, cat_rf]) rfl fun X Z => ?_
  unfold pX13_swapGain at hf
  obtain ⟨t0, hf⟩ := tg_i hf
  refine J_aload_n Z.1 0 dX13_swapGain_0 rfl rfl ?_
  refine J_iconst Z.1 (v := 0) (by decide) dX13_swapGain_1 ?_
  refine J_putI Z.1 dX13_swapGain_2 fl_X13_71 (fun q => by cases q) t0 rfl rfl (congrArg Value.int (hI_s _ _ _ _)) ?_
  refine J_th (fun h1 eh1 => ?_)
  replace hf := lt_i hf h1 eh1
  refine J_aload_n Z.1 0 dX13_swapGain_5 rfl rfl ?_
  refine J_iload_n Z.1 1 dX13_swapGain_6 rfl rfl ?_
  obtain ⟨x4, h2, q3, hf⟩ := bd2_i hf
  refine J_callV (ci := 11) (as := [.int p1]) (rest := []) (sy := [.int x4]) Z.1 dX13_swapGain_7 cw_X13_604 (pX13_gainOf_ok G (dk - 1) (by omega) q3) rfl rfl t0 (zG Z) rfl (by decide) (zF Z (by omega)) (zO Z (by omega) (by decide)) (zM _) Z.2.1 Z.2.1 rfl rfl ?_
  cases hf
  exact J_iret Z.1 Z.2.2.2.2.2 dX13_swapGain_10
theorem dX13_bestSwap_0 : decode cX13_bestSwap 0 = .ok (.aload_n 0, 1) := by decide +kernel
theorem dX13_bestSwap_1 : decode cX13_bestSwap 1 = .ok (.iconst 0, 1) := by decide +kernel
theorem dX13_bestSwap_2 : decode cX13_bestSwap 2 = .ok (.putfield 71, 3) := by decide +kernel
theorem dX13_bestSwap_5 : decode cX13_bestSwap 5 = .ok (.iconst (-1), 1) := by decide +kernel
theorem dX13_bestSwap_6 : decode cX13_bestSwap 6 = .ok (.istore_n 1, 1) := by decide +kernel
theorem dX13_bestSwap_7 : decode cX13_bestSwap 7 = .ok (.iconst 0, 1) := by decide +kernel
theorem dX13_bestSwap_8 : decode cX13_bestSwap 8 = .ok (.istore_n 2, 1) := by decide +kernel
theorem dX13_bestSwap_9 : decode cX13_bestSwap 9 = .ok (.iconst 0, 1) := by decide +kernel
theorem dX13_bestSwap_10 : decode cX13_bestSwap 10 = .ok (.istore_n 3, 1) := by decide +kernel
theorem dX13_bestSwap_11 : decode cX13_bestSwap 11 = .ok (.iload_n 3, 1) := by decide +kernel
theorem dX13_bestSwap_12 : decode cX13_bestSwap 12 = .ok (.aload_n 0, 1) := by decide +kernel
theorem dX13_bestSwap_13 : decode cX13_bestSwap 13 = .ok (.getfield 31, 3) := by decide +kernel
theorem dX13_bestSwap_16 : decode cX13_bestSwap 16 = .ok (.iconst 5, 1) := by decide +kernel
theorem dX13_bestSwap_17 : decode cX13_bestSwap 17 = .ok (.iaload, 1) := by decide +kernel
theorem dX13_bestSwap_18 : decode cX13_bestSwap 18 = .ok (.if_icmp .ge 37, 3) := by decide +kernel
theorem dX13_bestSwap_21 : decode cX13_bestSwap 21 = .ok (.aload_n 0, 1) := by decide +kernel
theorem dX13_bestSwap_22 : decode cX13_bestSwap 22 = .ok (.iload_n 3, 1) := by decide +kernel
theorem dX13_bestSwap_23 : decode cX13_bestSwap 23 = .ok (.invokevirtual 604, 3) := by decide +kernel
theorem dX13_bestSwap_26 : decode cX13_bestSwap 26 = .ok (.istore 4, 2) := by decide +kernel
theorem dX13_bestSwap_28 : decode cX13_bestSwap 28 = .ok (.aload_n 0, 1) := by decide +kernel
theorem dX13_bestSwap_29 : decode cX13_bestSwap 29 = .ok (.getfield 74, 3) := by decide +kernel
theorem dX13_bestSwap_32 : decode cX13_bestSwap 32 = .ok (.ifCond .gt 17, 3) := by decide +kernel
theorem dX13_bestSwap_35 : decode cX13_bestSwap 35 = .ok (.iload 4, 2) := by decide +kernel
theorem dX13_bestSwap_37 : decode cX13_bestSwap 37 = .ok (.iload_n 2, 1) := by decide +kernel
theorem dX13_bestSwap_38 : decode cX13_bestSwap 38 = .ok (.if_icmp .gt 6, 3) := by decide +kernel
theorem dX13_bestSwap_41 : decode cX13_bestSwap 41 = .ok (.goto 8, 3) := by decide +kernel
theorem dX13_bestSwap_44 : decode cX13_bestSwap 44 = .ok (.iload 4, 2) := by decide +kernel
theorem dX13_bestSwap_46 : decode cX13_bestSwap 46 = .ok (.istore_n 2, 1) := by decide +kernel
theorem dX13_bestSwap_47 : decode cX13_bestSwap 47 = .ok (.iload_n 3, 1) := by decide +kernel
theorem dX13_bestSwap_48 : decode cX13_bestSwap 48 = .ok (.istore_n 1, 1) := by decide +kernel
theorem dX13_bestSwap_49 : decode cX13_bestSwap 49 = .ok (.iinc 3 1, 3) := by decide +kernel
theorem dX13_bestSwap_52 : decode cX13_bestSwap 52 = .ok (.goto (-41), 3) := by decide +kernel
theorem dX13_bestSwap_55 : decode cX13_bestSwap 55 = .ok (.aload_n 0, 1) := by decide +kernel
theorem dX13_bestSwap_56 : decode cX13_bestSwap 56 = .ok (.iconst 0, 1) := by decide +kernel
theorem dX13_bestSwap_57 : decode cX13_bestSwap 57 = .ok (.putfield 74, 3) := by decide +kernel
theorem dX13_bestSwap_60 : decode cX13_bestSwap 60 = .ok (.aload_n 0, 1) := by decide +kernel
theorem dX13_bestSwap_61 : decode cX13_bestSwap 61 = .ok (.iload_n 1, 1) := by decide +kernel
theorem dX13_bestSwap_62 : decode cX13_bestSwap 62 = .ok (.invokevirtual 541, 3) := by decide +kernel
theorem dX13_bestSwap_65 : decode cX13_bestSwap 65 = .ok (.ireturn, 1) := by decide +kernel
def pX13_bestSwap_b49 (g : MT) (this : Nat) (k11 : Int32 → Int32 → Int32 → CT → Option ((Int32) × CT)) (l1 : Int32) (l2 : Int32) (l3 : Int32) (h : CT) : Option ((Int32) × CT) := lt (l3 + 1) fun x1 => (k11 l1 l2 x1 h)
set_option maxRecDepth 10000 in
set_option maxHeartbeats 4000000 in
theorem pX13_bestSwap_b49_ok {X : Cx} {G : Gx} {dk : Nat} {g : MT} {r0 : Int32} {h0 : CT} {this : Nat} {k11 : Int32 → Int32 → Int32 → CT → Option ((Int32) × CT)} (Z : Zx X G cX13_bestSwap RX13 5 dk (some .int) (some (.int r0)) g h0) (hK : 130 ≤ dk) (t0 : gT g this = 12) (hk11 : ∀ (l1 : Int32) (l2 : Int32) (l3 : Int32) (h : CT), k11 l1 l2 l3 h = some (r0, h0) → J X g h 11 [(0, va_rf (some this)), (1, .int l1), (2, .int l2), (3, .int l3)] []) (l1 : Int32) (l2 : Int32) (l3 : Int32) (h : CT) (hf : pX13_bestSwap_b49 g this k11 l1 l2 l3 h = some (r0, h0)) : J X g h 49 [(0, va_rf (some this)), (1, .int l1), (2, .int l2), (3, .int l3)] [] := by
  unfold pX13_bestSwap_b49 at hf
  refine J_iinc Z.1 (v := 1) (lv2 := [(3, .int (l3 + 1)), (0, va_rf (some this)), (1, .int l1), (2, .int l2)]) 3 dX13_bestSwap_49 rfl (by decide) (zL Z (by decide)) rfl ?_
  obtain ⟨x1, ex1⟩ : ∃ z, z = (l3 + 1) := ⟨_, rfl⟩
  replace hf := lt_i hf x1 ex1
  rw [← ex1]
  refine J_goto Z.1 11 dX13_bestSwap_52 (by decide) ?_
  refine J_lv [1, 2, 3, 0] rfl ?_
  exact hk11 _ _ _ _ hf
def pX13_bestSwap_b11 (g : MT) (this : Nat) (k11 : Int32 → Int32 → Int32 → CT → Option ((Int32) × CT)) (l1 : Int32) (l2 : Int32) (l3 : Int32) (h : CT) : Option ((Int32) × CT) := lt (hR h this 19) fun r1 => (nn r1 fun a1 => (tg g a1 20 (ix (gL g a1) 5 (if (hI h a1 (Int32.toNatClampNeg 5)) ≤ l3 then lt (sI h this 0 0) fun h5 => (bd2 (pX13_answer g h5 this l1) fun x8 h6 => (some (x8, h6))) else bd2 (pX13_gainOf g h this l3) fun x11 h9 => (if 0 < (hI h9 this 0) then pX13_bestSwap_b49 g this k11 l1 l2 l3 h9 else if l2 < x11 then pX13_bestSwap_b49 g this k11 l3 x11 l3 h9 else pX13_bestSwap_b49 g this k11 l1 l2 l3 h9)))))
set_option maxRecDepth 10000 in
set_option maxHeartbeats 4000000 in
theorem pX13_bestSwap_b11_ok {X : Cx} {G : Gx} {dk : Nat} {g : MT} {r0 : Int32} {h0 : CT} {this : Nat} {k11 : Int32 → Int32 → Int32 → CT → Option ((Int32) × CT)} (Z : Zx X G cX13_bestSwap RX13 5 dk (some .int) (some (.int r0)) g h0) (hK : 130 ≤ dk) (t0 : gT g this = 12) (hk11 : ∀ (l1 : Int32) (l2 : Int32) (l3 : Int32) (h : CT), k11 l1 l2 l3 h = some (r0, h0) → J X g h 11 [(0, va_rf (some this)), (1, .int l1), (2, .int l2), (3, .int l3)] []) (l1 : Int32) (l2 : Int32) (l3 : Int32) (h : CT) (hf : pX13_bestSwap_b11 g this k11 l1 l2 l3 h = some (r0, h0)) : J X g h 11 [(0, va_rf (some this)), (1, .int l1), (2, .int l2), (3, .int l3)] [] := by
  unfold pX13_bestSwap_b11 at hf
  refine J_iload_n Z.1 3 dX13_bestSwap_11 rfl rfl ?_
  refine J_aload_n Z.1 0 dX13_bestSwap_12 rfl rfl ?_
  refine J_get (v := va_rf (hR h this 19)) Z.1 dX13_bestSwap_13 fl_X13_31 t0 rfl ?_
  refine J_tr (fun r1 er1 => ?_)
  replace hf := lt_i hf r1 er1
  refine J_iconst Z.1 (v := 5) (by decide) dX13_bestSwap_16 ?_
  obtain ⟨a1, rfl, hf⟩ := nn_i hf
  obtain ⟨t2, hf⟩ := tg_i hf
  obtain ⟨i3, hf⟩ := ix_i hf
  refine J_iaload Z.1 dX13_bestSwap_17 t2 i3 ?_
  refine J_icmp_ge Z.1 55 dX13_bestSwap_18 (by decide) (fun c4 => ?_) (fun c4 => ?_)
  · rw [if_pos c4] at hf
    refine J_aload_n Z.1 0 dX13_bestSwap_55 rfl rfl ?_
    refine J_iconst Z.1 (v := 0) (by decide) dX13_bestSwap_56 ?_
    refine J_putI Z.1 dX13_bestSwap_57 fl_X13_74 (fun q => by cases q) t0 rfl rfl (congrArg Value.int (hI_s _ _ _ _)) ?_
    refine J_th (fun h5 eh5 => ?_)
    replace hf := lt_i hf h5 eh5
    refine J_aload_n Z.1 0 dX13_bestSwap_60 rfl rfl ?_
    refine J_iload_n Z.1 1 dX13_bestSwap_61 rfl rfl ?_
    obtain ⟨x8, h6, q7, hf⟩ := bd2_i hf
    refine J_callV (ci := 11) (as := [.int l1]) (rest := []) (sy := [.int x8]) Z.1 dX13_bestSwap_62 cw_X13_541 (pX13_answer_ok G (dk - 1) (by omega) q7) rfl rfl t0 (zG Z) rfl (by decide) (zF Z (by omega)) (zO Z (by omega) (by decide)) (zM _) Z.2.1 Z.2.1 rfl rfl ?_
    cases hf
    exact J_iret Z.1 Z.2.2.2.2.2 dX13_bestSwap_65
  · rw [if_neg c4] at hf
    refine J_aload_n Z.1 0 dX13_bestSwap_21 rfl rfl ?_
    refine J_iload_n Z.1 3 dX13_bestSwap_22 rfl rfl ?_
    obtain ⟨x11, h9, q10, hf⟩ := bd2_i hf
    refine J_callV (ci := 11) (as := [.int l3]) (rest := []) (sy := [.int x11]) Z.1 dX13_bestSwap_23 cw_X13_604 (pX13_gainOf_ok G (dk - 1) (by omega) q10) rfl rfl t0 (zG Z) rfl (by decide) (zF Z (by omega)) (zO Z (by omega) (by decide)) (zM _) Z.2.1 Z.2.1 rfl rfl ?_
    refine J_istore Z.1 (lv2 := [(4, .int x11), (0, va_rf (some this)), (1, .int l1), (2, .int l2), (3, .int l3)]) dX13_bestSwap_26 (zL Z (by decide)) rfl ?_
    refine J_aload_n Z.1 1 dX13_bestSwap_28 rfl rfl ?_
    refine J_get (v := .int (hI h9 this 0)) Z.1 dX13_bestSwap_29 fl_X13_74 t0 rfl ?_
    refine J_if_gt Z.1 49 dX13_bestSwap_32 (by decide) (fun c12 => ?_) (fun c12 => ?_)
    · rw [if_pos c12] at hf
      refine J_lv [1, 2, 3, 4] rfl ?_
      exact pX13_bestSwap_b49_ok Z hK t0 hk11 _ _ _ _ hf
    · rw [if_neg c12] at hf
      refine J_iload Z.1 0 dX13_bestSwap_35 rfl ?_
      refine J_iload_n Z.1 3 dX13_bestSwap_37 rfl rfl ?_
      refine J_icmp_gt Z.1 44 dX13_bestSwap_38 (by decide) (fun c13 => ?_) (fun c13 => ?_)
      · rw [if_pos c13] at hf
        refine J_iload Z.1 0 dX13_bestSwap_44 rfl ?_
        refine J_istore_n Z.1 (lv2 := [(2, .int x11), (4, .int x11), (0, va_rf (some this)), (1, .int l1), (3, .int l3)]) dX13_bestSwap_46 rfl (zL Z (by decide)) rfl ?_
        refine J_iload_n Z.1 4 dX13_bestSwap_47 rfl rfl ?_
        refine J_istore_n Z.1 (lv2 := [(1, .int l3), (2, .int x11), (4, .int x11), (0, va_rf (some this)), (3, .int l3)]) dX13_bestSwap_48 rfl (zL Z (by decide)) rfl ?_
        refine J_lv [3, 0, 1, 4] rfl ?_
        exact pX13_bestSwap_b49_ok Z hK t0 hk11 _ _ _ _ hf
      · rw [if_neg c13] at hf
        refine J_goto Z.1 49 dX13_bestSwap_41 (by decide) ?_
        refine J_lv [1, 2, 3, 4] rfl ?_
        exact pX13_bestSwap_b49_ok Z hK t0 hk11 _ _ _ _ hf
def pX13_bestSwap_l11 (g : MT) (this : Nat) : Nat → Int32 → Int32 → Int32 → CT → Option ((Int32) × CT)
  | 0, _, _, _, _ => none
  | n + 1, l1, l2, l3, h => pX13_bestSwap_b11 g this (pX13_bestSwap_l11 g this n) l1 l2 l3 h
theorem pX13_bestSwap_l11_ok {X : Cx} {G : Gx} {dk : Nat} {g : MT} {r0 : Int32} {h0 : CT} {this : Nat} (Z : Zx X G cX13_bestSwap RX13 5 dk (some .int) (some (.int r0)) g h0) (hK : 130 ≤ dk) (t0 : gT g this = 12) : ∀ (n : Nat) (l1 : Int32) (l2 : Int32) (l3 : Int32) (h : CT), pX13_bestSwap_l11 g this n l1 l2 l3 h = some (r0, h0) → J X g h 11 [(0, va_rf (some this)), (1, .int l1), (2, .int l2), (3, .int l3)] [] := by
  intro n
  induction n with
  | zero => intro l1 l2 l3 h hf; cases hf
  | succ n ih => intro l1 l2 l3 h hf; exact pX13_bestSwap_b11_ok Z hK t0 ih l1 l2 l3 h hf
def pX13_bestSwap (g : MT) (h : CT) (this : Nat) : Option ((Int32) × CT) := tg g this 12 (lt (sI h this 1 0) fun h1 => (pX13_bestSwap_l11 g this  FUEL (-1) 0 0 h1))
set_option maxRecDepth 10000 in
set_option maxHeartbeats 4000000 in
theorem pX13_bestSwap_ok (G : Gx) (dk : Nat) (hK : 130 ≤ dk) {g : MT} {h h0 : CT} {this : Nat} {r0 : Int32} (hf : pX13_bestSwap g h this = some (r0, h0)) : Ctr G dk yX13_bestSwap cX13_bestSwap 5 (some .int) [va_rf (some this)] g h (some (.int r0)) g h0 := by
  refine Ctr.ofZ (lv := [(0, va_rf (some this))]) (by decide +kernel) (by simp [cat_i, cat_l, cat_d, cat_rf]) rfl fun X Z => ?_
  unfold pX13_bestSwap at hf
  obtain ⟨t0, hf⟩ := tg_i hf
  refine J_aload_n Z.1 0 dX13_bestSwap_0 rfl rfl ?_
  refine J_iconst Z.1 (v := 0) (by decide) dX13_bestSwap_1 ?_
  refine J_putI Z.1 dX13_bestSwap_2 fl_X13_71 (fun q => by cases q) t0 rfl rfl (congrArg Value.int (hI_s _ _ _ _)) ?_
  refine J_th (fun h1 eh1 => ?_)
  replace hf := lt_i hf h1 eh1
  refine J_iconst Z.1 (v := (-1)) (by decide) dX13_bestSwap_5 ?_
  refine J_istore_n Z.1 (lv2 := [(1, .int (-1)), (0, va_rf (some this))]) dX13_bestSwap_6 rfl (zL Z (by decide)) rfl ?_
  refine J_iconst Z.1 (v := 0) (by decide) dX13_bestSwap_7 ?_
  refine J_istore_n Z.1 (lv2 := [(2, .int 0), (1, .int (-1)), (0, va_rf (some this))]) dX13_bestSwap_8 rfl (zL Z (by decide)) rfl ?_
  refine J_iconst Z.1 (v := 0) (by decide) dX13_bestSwap_9 ?_
  refine J_istore_n Z.1 (lv2 := [(3, .int 0), (2, .int 0), (1, .int (-1)), (0, va_rf (some this))]) dX13_bestSwap_10 rfl (zL Z (by decide)) rfl ?_
  refine J_lv [3, 2, 1, 0] rfl ?_
  exact pX13_bestSwap_l11_ok Z hK t0  FUEL _ _ _ _ hf
