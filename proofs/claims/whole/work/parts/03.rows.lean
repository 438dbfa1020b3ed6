/-! rows of J, an instruction each: written by wip/whole/gen_rows.py -/
theorem isNaN64_d (b : UInt64) : isNaN64 b = FP.dIsNaN b := by
  rw [Bool.eq_iff_iff, isNaN64_iff, FP.Core.isNaN_bits, show (9223372036854775807 : Nat) = 2 ^ 63 - 1 by decide, Nat.and_two_pow_sub_one_eq_mod]
theorem isNaN32_f (b : UInt32) : isNaN32 b = FP.fIsNaN b := by
  rw [Bool.eq_iff_iff, isNaN32_iff, FP.Core.isNaN_bits32, show (2147483647 : Nat) = 2 ^ 31 - 1 by decide, Nat.and_two_pow_sub_one_eq_mod]
theorem cnD_alike {a b : UInt64} (h : alike64 a b = true) : cnD a = cnD b := by
  simp only [alike64, Bool.or_eq_true, decide_eq_true_eq, Bool.and_eq_true, isNaN64_d] at h
  rcases h with rfl | ⟨h1, h2⟩
  · rfl
  · simp [cnD, h1, h2]
theorem cnF_alike {a b : UInt32} (h : alike32 a b = true) : cnF a = cnF b := by
  simp only [alike32, Bool.or_eq_true, decide_eq_true_eq, Bool.and_eq_true, isNaN32_f] at h
  rcases h with rfl | ⟨h1, h2⟩
  · rfl
  · simp [cnF, h1, h2]
theorem val_cnD (y : UInt64) : FP.Core.val64 (cnD y) = FP.Core.val64 y := by
  unfold cnD
  split
  · rename_i h
    rw [(FP.Core.dIsNaN_iff y).mp h]
    decide +kernel
  · rfl
theorem nan_cnD (y : UInt64) : FP.dIsNaN (cnD y) = FP.dIsNaN y := by
  rw [Bool.eq_iff_iff, FP.Core.dIsNaN_iff, FP.Core.dIsNaN_iff, val_cnD]
theorem nan_cnF (y : UInt32) : FP.fIsNaN (cnF y) = FP.fIsNaN y := by
  unfold cnF
  split
  · rename_i h
    rw [h]
    decide +kernel
  · rfl
theorem cnD_nan {a b : UInt64} (ha : FP.dIsNaN a = true) (hb : FP.dIsNaN b = true) : cnD a = cnD b := by simp [cnD, ha, hb]
theorem cnF_nan {a b : UInt32} (ha : FP.fIsNaN a = true) (hb : FP.fIsNaN b = true) : cnF a = cnF b := by simp [cnF, ha, hb]
theorem dec_cnD (y : UInt64) : FP.Core.decode FP.Core.b64 (cnD y).toNat = FP.Core.decode FP.Core.b64 y.toNat := val_cnD y
theorem cnD_neg (y : UInt64) : cnD (FP.dneg (cnD y)) = cnD (FP.dneg y) := by
  by_cases h : FP.dIsNaN y = true
  · exact cnD_nan (by rw [FP.dneg_nan, nan_cnD]; exact h) (by rw [FP.dneg_nan]; exact h)
  · rw [show cnD y = y from by simp [cnD, h]]
theorem cnF_d2f (y : UInt64) : cnF (FP.d2f (cnD y)) = cnF (FP.d2f y) := by
  by_cases h : FP.dIsNaN y = true
  · exact cnF_nan (by rw [FP.d2f_nan, nan_cnD]; exact h) (by rw [FP.d2f_nan]; exact h)
  · rw [show cnD y = y from by simp [cnD, h]]
theorem cnD_f2d (y : UInt32) : cnD (FP.f2d (cnF y)) = cnD (FP.f2d y) := by
  by_cases h : FP.fIsNaN y = true
  · exact cnD_nan (by rw [FP.f2d_nan, nan_cnF]; exact h) (by rw [FP.f2d_nan]; exact h)
  · rw [show cnF y = y from by simp [cnF, h]]

theorem cn_dadd (a b : UInt64) : FP.dadd (cnD a) (cnD b) = FP.dadd a b := by
  show UInt64.ofNat (FP.Core.add FP.Core.b64 (cnD a).toNat (cnD b).toNat) = UInt64.ofNat (FP.Core.add FP.Core.b64 a.toNat b.toNat)
  unfold FP.Core.add
  rw [dec_cnD, dec_cnD]
theorem cn_dsub (a b : UInt64) : FP.dsub (cnD a) (cnD b) = FP.dsub a b := by
  show UInt64.ofNat (FP.Core.sub FP.Core.b64 (cnD a).toNat (cnD b).toNat) = UInt64.ofNat (FP.Core.sub FP.Core.b64 a.toNat b.toNat)
  unfold FP.Core.sub
  rw [dec_cnD, dec_cnD]
theorem cn_dmul (a b : UInt64) : FP.dmul (cnD a) (cnD b) = FP.dmul a b := by
  show UInt64.ofNat (FP.Core.mul FP.Core.b64 (cnD a).toNat (cnD b).toNat) = UInt64.ofNat (FP.Core.mul FP.Core.b64 a.toNat b.toNat)
  unfold FP.Core.mul
  rw [dec_cnD, dec_cnD]
theorem cn_ddiv (a b : UInt64) : FP.ddiv (cnD a) (cnD b) = FP.ddiv a b := by
  show UInt64.ofNat (FP.Core.div FP.Core.b64 (cnD a).toNat (cnD b).toNat) = UInt64.ofNat (FP.Core.div FP.Core.b64 a.toNat b.toNat)
  unfold FP.Core.div
  rw [dec_cnD, dec_cnD]
theorem cn_drem (a b : UInt64) : FP.drem (cnD a) (cnD b) = FP.drem a b := by
  show UInt64.ofNat (FP.Core.rem FP.Core.b64 (cnD a).toNat (cnD b).toNat) = UInt64.ofNat (FP.Core.rem FP.Core.b64 a.toNat b.toNat)
  unfold FP.Core.rem
  rw [dec_cnD, dec_cnD]
theorem cn_dcmp (a b : UInt64) : FP.dcmp (cnD a) (cnD b) = FP.dcmp a b := by
  show FP.Core.cmp FP.Core.b64 (cnD a).toNat (cnD b).toNat = FP.Core.cmp FP.Core.b64 a.toNat b.toNat
  unfold FP.Core.cmp
  rw [dec_cnD, dec_cnD]
theorem cn_d2i (a : UInt64) : FP.d2i (cnD a) = FP.d2i a := by
  show FP.Core.toI (FP.Core.decode FP.Core.b64 (cnD a).toNat) = FP.Core.toI (FP.Core.decode FP.Core.b64 a.toNat)
  rw [dec_cnD]
theorem cn_d2l (a : UInt64) : FP.d2l (cnD a) = FP.d2l a := by
  show FP.Core.toL (FP.Core.decode FP.Core.b64 (cnD a).toNat) = FP.Core.toL (FP.Core.decode FP.Core.b64 a.toNat)
  rw [dec_cnD]
/-- the machine's double operations, of all NaNs one -/
def fadd (x y : UInt64) : UInt64 := cnD (FP.dadd x y)
def fsub (x y : UInt64) : UInt64 := cnD (FP.dsub x y)
def fmul (x y : UInt64) : UInt64 := cnD (FP.dmul x y)
def fdiv (x y : UInt64) : UInt64 := cnD (FP.ddiv x y)
def frem (x y : UInt64) : UInt64 := cnD (FP.drem x y)
def fneg (x : UInt64) : UInt64 := cnD (FP.dneg x)
def fi2d (x : Int32) : UInt64 := cnD (FP.i2d x)
def fl2d (x : Int64) : UInt64 := cnD (FP.l2d x)
def fsgl (x : UInt64) : UInt64 := cnD (FP.f2d (cnF (FP.d2f x)))
section JR
variable {X : Cx} {cc : ByteArray} {own : String} {g : MT} {h : CT} {pc : Nat} {lv : List (Nat × Value)} {st : List Value}

theorem J_iadd (F : Fx X cc own) {x : Int32} {y : Int32}  (hd : decode cc pc = .ok (.iadd, 1)) (k : J X g h (pc + 1) lv (.int (x + y) :: st)) : J X g h pc lv (.int y :: .int x :: st) := by
  intro H locs ls st' d0 a1 a2 a3 a4 b0
  obtain ⟨v0, r0, rfl, e0, b1⟩ := mc1 b0
  cases cn_i e0
  obtain ⟨v1, r1, rfl, e1, b2⟩ := mc1 b1
  cases cn_i e1
  exact lv_iadd F.1 F.2.1 hd  (k H locs ls _ d0 a1 a2 a3 a4 (by rw [List.map_cons, b2]; rfl))
theorem J_isub (F : Fx X cc own) {x : Int32} {y : Int32}  (hd : decode cc pc = .ok (.isub, 1)) (k : J X g h (pc + 1) lv (.int (x - y) :: st)) : J X g h pc lv (.int y :: .int x :: st) := by
  intro H locs ls st' d0 a1 a2 a3 a4 b0
  obtain ⟨v0, r0, rfl, e0, b1⟩ := mc1 b0
  cases cn_i e0
  obtain ⟨v1, r1, rfl, e1, b2⟩ := mc1 b1
  cases cn_i e1
  exact lv_isub F.1 F.2.1 hd  (k H locs ls _ d0 a1 a2 a3 a4 (by rw [List.map_cons, b2]; rfl))
theorem J_imul (F : Fx X cc own) {x : Int32} {y : Int32}  (hd : decode cc pc = .ok (.imul, 1)) (k : J X g h (pc + 1) lv (.int (x * y) :: st)) : J X g h pc lv (.int y :: .int x :: st) := by
  intro H locs ls st' d0 a1 a2 a3 a4 b0
  obtain ⟨v0, r0, rfl, e0, b1⟩ := mc1 b0
  cases cn_i e0
  obtain ⟨v1, r1, rfl, e1, b2⟩ := mc1 b1
  cases cn_i e1
  exact lv_imul F.1 F.2.1 hd  (k H locs ls _ d0 a1 a2 a3 a4 (by rw [List.map_cons, b2]; rfl))
theorem J_iand (F : Fx X cc own) {x : Int32} {y : Int32}  (hd : decode cc pc = .ok (.iand, 1)) (k : J X g h (pc + 1) lv (.int (x &&& y) :: st)) : J X g h pc lv (.int y :: .int x :: st) := by
  intro H locs ls st' d0 a1 a2 a3 a4 b0
  obtain ⟨v0, r0, rfl, e0, b1⟩ := mc1 b0
  cases cn_i e0
  obtain ⟨v1, r1, rfl, e1, b2⟩ := mc1 b1
  cases cn_i e1
  exact lv_iand F.1 F.2.1 hd  (k H locs ls _ d0 a1 a2 a3 a4 (by rw [List.map_cons, b2]; rfl))
theorem J_ior (F : Fx X cc own) {x : Int32} {y : Int32}  (hd : decode cc pc = .ok (.ior, 1)) (k : J X g h (pc + 1) lv (.int (x ||| y) :: st)) : J X g h pc lv (.int y :: .int x :: st) := by
  intro H locs ls st' d0 a1 a2 a3 a4 b0
  obtain ⟨v0, r0, rfl, e0, b1⟩ := mc1 b0
  cases cn_i e0
  obtain ⟨v1, r1, rfl, e1, b2⟩ := mc1 b1
  cases cn_i e1
  exact lv_ior F.1 F.2.1 hd  (k H locs ls _ d0 a1 a2 a3 a4 (by rw [List.map_cons, b2]; rfl))
theorem J_ixor (F : Fx X cc own) {x : Int32} {y : Int32}  (hd : decode cc pc = .ok (.ixor, 1)) (k : J X g h (pc + 1) lv (.int (x ^^^ y) :: st)) : J X g h pc lv (.int y :: .int x :: st) := by
  intro H locs ls st' d0 a1 a2 a3 a4 b0
  obtain ⟨v0, r0, rfl, e0, b1⟩ := mc1 b0
  cases cn_i e0
  obtain ⟨v1, r1, rfl, e1, b2⟩ := mc1 b1
  cases cn_i e1
  exact lv_ixor F.1 F.2.1 hd  (k H locs ls _ d0 a1 a2 a3 a4 (by rw [List.map_cons, b2]; rfl))
theorem J_ladd (F : Fx X cc own) {x : Int64} {y : Int64}  (hd : decode cc pc = .ok (.ladd, 1)) (k : J X g h (pc + 1) lv (.long (x + y) :: st)) : J X g h pc lv (.long y :: .long x :: st) := by
  intro H locs ls st' d0 a1 a2 a3 a4 b0
  obtain ⟨v0, r0, rfl, e0, b1⟩ := mc1 b0
  cases cn_l e0
  obtain ⟨v1, r1, rfl, e1, b2⟩ := mc1 b1
  cases cn_l e1
  exact lv_ladd F.1 F.2.1 hd  (k H locs ls _ d0 a1 a2 a3 a4 (by rw [List.map_cons, b2]; rfl))
theorem J_lsub (F : Fx X cc own) {x : Int64} {y : Int64}  (hd : decode cc pc = .ok (.lsub, 1)) (k : J X g h (pc + 1) lv (.long (x - y) :: st)) : J X g h pc lv (.long y :: .long x :: st) := by
  intro H locs ls st' d0 a1 a2 a3 a4 b0
  obtain ⟨v0, r0, rfl, e0, b1⟩ := mc1 b0
  cases cn_l e0
  obtain ⟨v1, r1, rfl, e1, b2⟩ := mc1 b1
  cases cn_l e1
  exact lv_lsub F.1 F.2.1 hd  (k H locs ls _ d0 a1 a2 a3 a4 (by rw [List.map_cons, b2]; rfl))
theorem J_lmul (F : Fx X cc own) {x : Int64} {y : Int64}  (hd : decode cc pc = .ok (.lmul, 1)) (k : J X g h (pc + 1) lv (.long (x * y) :: st)) : J X g h pc lv (.long y :: .long x :: st) := by
  intro H locs ls st' d0 a1 a2 a3 a4 b0
  obtain ⟨v0, r0, rfl, e0, b1⟩ := mc1 b0
  cases cn_l e0
  obtain ⟨v1, r1, rfl, e1, b2⟩ := mc1 b1
  cases cn_l e1
  exact lv_lmul F.1 F.2.1 hd  (k H locs ls _ d0 a1 a2 a3 a4 (by rw [List.map_cons, b2]; rfl))
theorem J_land (F : Fx X cc own) {x : Int64} {y : Int64}  (hd : decode cc pc = .ok (.land, 1)) (k : J X g h (pc + 1) lv (.long (x &&& y) :: st)) : J X g h pc lv (.long y :: .long x :: st) := by
  intro H locs ls st' d0 a1 a2 a3 a4 b0
  obtain ⟨v0, r0, rfl, e0, b1⟩ := mc1 b0
  cases cn_l e0
  obtain ⟨v1, r1, rfl, e1, b2⟩ := mc1 b1
  cases cn_l e1
  exact lv_land F.1 F.2.1 hd  (k H locs ls _ d0 a1 a2 a3 a4 (by rw [List.map_cons, b2]; rfl))
theorem J_lor (F : Fx X cc own) {x : Int64} {y : Int64}  (hd : decode cc pc = .ok (.lor, 1)) (k : J X g h (pc + 1) lv (.long (x ||| y) :: st)) : J X g h pc lv (.long y :: .long x :: st) := by
  intro H locs ls st' d0 a1 a2 a3 a4 b0
  obtain ⟨v0, r0, rfl, e0, b1⟩ := mc1 b0
  cases cn_l e0
  obtain ⟨v1, r1, rfl, e1, b2⟩ := mc1 b1
  cases cn_l e1
  exact lv_lor F.1 F.2.1 hd  (k H locs ls _ d0 a1 a2 a3 a4 (by rw [List.map_cons, b2]; rfl))
theorem J_lxor (F : Fx X cc own) {x : Int64} {y : Int64}  (hd : decode cc pc = .ok (.lxor, 1)) (k : J X g h (pc + 1) lv (.long (x ^^^ y) :: st)) : J X g h pc lv (.long y :: .long x :: st) := by
  intro H locs ls st' d0 a1 a2 a3 a4 b0
  obtain ⟨v0, r0, rfl, e0, b1⟩ := mc1 b0
  cases cn_l e0
  obtain ⟨v1, r1, rfl, e1, b2⟩ := mc1 b1
  cases cn_l e1
  exact lv_lxor F.1 F.2.1 hd  (k H locs ls _ d0 a1 a2 a3 a4 (by rw [List.map_cons, b2]; rfl))
theorem J_idiv (F : Fx X cc own) {x : Int32} {y : Int32} (hne : ¬ y = 0) (hd : decode cc pc = .ok (.idiv, 1)) (k : J X g h (pc + 1) lv (.int (x / y) :: st)) : J X g h pc lv (.int y :: .int x :: st) := by
  intro H locs ls st' d0 a1 a2 a3 a4 b0
  obtain ⟨v0, r0, rfl, e0, b1⟩ := mc1 b0
  cases cn_i e0
  obtain ⟨v1, r1, rfl, e1, b2⟩ := mc1 b1
  cases cn_i e1
  exact lv_idiv F.1 F.2.1 hd hne (k H locs ls _ d0 a1 a2 a3 a4 (by rw [List.map_cons, b2]; rfl))
theorem J_irem (F : Fx X cc own) {x : Int32} {y : Int32} (hne : ¬ y = 0) (hd : decode cc pc = .ok (.irem, 1)) (k : J X g h (pc + 1) lv (.int (x - x / y * y) :: st)) : J X g h pc lv (.int y :: .int x :: st) := by
  intro H locs ls st' d0 a1 a2 a3 a4 b0
  obtain ⟨v0, r0, rfl, e0, b1⟩ := mc1 b0
  cases cn_i e0
  obtain ⟨v1, r1, rfl, e1, b2⟩ := mc1 b1
  cases cn_i e1
  exact lv_irem F.1 F.2.1 hd hne (k H locs ls _ d0 a1 a2 a3 a4 (by rw [List.map_cons, b2]; rfl))
theorem J_ldiv (F : Fx X cc own) {x : Int64} {y : Int64} (hne : ¬ y = 0) (hd : decode cc pc = .ok (.ldiv, 1)) (k : J X g h (pc + 1) lv (.long (x / y) :: st)) : J X g h pc lv (.long y :: .long x :: st) := by
  intro H locs ls st' d0 a1 a2 a3 a4 b0
  obtain ⟨v0, r0, rfl, e0, b1⟩ := mc1 b0
  cases cn_l e0
  obtain ⟨v1, r1, rfl, e1, b2⟩ := mc1 b1
  cases cn_l e1
  exact lv_ldiv F.1 F.2.1 hd hne (k H locs ls _ d0 a1 a2 a3 a4 (by rw [List.map_cons, b2]; rfl))
theorem J_lrem (F : Fx X cc own) {x : Int64} {y : Int64} (hne : ¬ y = 0) (hd : decode cc pc = .ok (.lrem, 1)) (k : J X g h (pc + 1) lv (.long (x - x / y * y) :: st)) : J X g h pc lv (.long y :: .long x :: st) := by
  intro H locs ls st' d0 a1 a2 a3 a4 b0
  obtain ⟨v0, r0, rfl, e0, b1⟩ := mc1 b0
  cases cn_l e0
  obtain ⟨v1, r1, rfl, e1, b2⟩ := mc1 b1
  cases cn_l e1
  exact lv_lrem F.1 F.2.1 hd hne (k H locs ls _ d0 a1 a2 a3 a4 (by rw [List.map_cons, b2]; rfl))
theorem J_ineg (F : Fx X cc own) {x : Int32}  (hd : decode cc pc = .ok (.ineg, 1)) (k : J X g h (pc + 1) lv (.int (-x) :: st)) : J X g h pc lv (.int x :: st) := by
  intro H locs ls st' d0 a1 a2 a3 a4 b0
  obtain ⟨v0, r0, rfl, e0, b1⟩ := mc1 b0
  cases cn_i e0
  exact lv_ineg F.1 F.2.1 hd  (k H locs ls _ d0 a1 a2 a3 a4 (by rw [List.map_cons, b1]; rfl))
theorem J_lneg (F : Fx X cc own) {x : Int64}  (hd : decode cc pc = .ok (.lneg, 1)) (k : J X g h (pc + 1) lv (.long (-x) :: st)) : J X g h pc lv (.long x :: st) := by
  intro H locs ls st' d0 a1 a2 a3 a4 b0
  obtain ⟨v0, r0, rfl, e0, b1⟩ := mc1 b0
  cases cn_l e0
  exact lv_lneg F.1 F.2.1 hd  (k H locs ls _ d0 a1 a2 a3 a4 (by rw [List.map_cons, b1]; rfl))
theorem J_ishl (F : Fx X cc own) {x : Int32} {y : Int32}  (hd : decode cc pc = .ok (.ishl, 1)) (k : J X g h (pc + 1) lv (.int (x <<< (y &&& 31)) :: st)) : J X g h pc lv (.int y :: .int x :: st) := by
  intro H locs ls st' d0 a1 a2 a3 a4 b0
  obtain ⟨v0, r0, rfl, e0, b1⟩ := mc1 b0
  cases cn_i e0
  obtain ⟨v1, r1, rfl, e1, b2⟩ := mc1 b1
  cases cn_i e1
  exact lv_ishl F.1 F.2.1 hd  (k H locs ls _ d0 a1 a2 a3 a4 (by rw [List.map_cons, b2]; rfl))
theorem J_ishr (F : Fx X cc own) {x : Int32} {y : Int32}  (hd : decode cc pc = .ok (.ishr, 1)) (k : J X g h (pc + 1) lv (.int (x >>> (y &&& 31)) :: st)) : J X g h pc lv (.int y :: .int x :: st) := by
  intro H locs ls st' d0 a1 a2 a3 a4 b0
  obtain ⟨v0, r0, rfl, e0, b1⟩ := mc1 b0
  cases cn_i e0
  obtain ⟨v1, r1, rfl, e1, b2⟩ := mc1 b1
  cases cn_i e1
  exact lv_ishr F.1 F.2.1 hd  (k H locs ls _ d0 a1 a2 a3 a4 (by rw [List.map_cons, b2]; rfl))
theorem J_iushr (F : Fx X cc own) {x : Int32} {y : Int32}  (hd : decode cc pc = .ok (.iushr, 1)) (k : J X g h (pc + 1) lv (.int ((x.toUInt32 >>> (y.toUInt32 &&& Int32.toUInt32 31)).toInt32) :: st)) : J X g h pc lv (.int y :: .int x :: st) := by
  intro H locs ls st' d0 a1 a2 a3 a4 b0
  obtain ⟨v0, r0, rfl, e0, b1⟩ := mc1 b0
  cases cn_i e0
  obtain ⟨v1, r1, rfl, e1, b2⟩ := mc1 b1
  cases cn_i e1
  exact lv_iushr F.1 F.2.1 hd rfl (k H locs ls _ d0 a1 a2 a3 a4 (by rw [List.map_cons, b2]; rfl))
theorem J_lshl (F : Fx X cc own) {x : Int64} {y : Int32}  (hd : decode cc pc = .ok (.lshl, 1)) (k : J X g h (pc + 1) lv (.long (x <<< (y.toInt64 &&& 63)) :: st)) : J X g h pc lv (.int y :: .long x :: st) := by
  intro H locs ls st' d0 a1 a2 a3 a4 b0
  obtain ⟨v0, r0, rfl, e0, b1⟩ := mc1 b0
  cases cn_i e0
  obtain ⟨v1, r1, rfl, e1, b2⟩ := mc1 b1
  cases cn_l e1
  exact lv_lshl F.1 F.2.1 hd rfl (k H locs ls _ d0 a1 a2 a3 a4 (by rw [List.map_cons, b2]; rfl))
theorem J_lshr (F : Fx X cc own) {x : Int64} {y : Int32}  (hd : decode cc pc = .ok (.lshr, 1)) (k : J X g h (pc + 1) lv (.long (x >>> (y.toInt64 &&& 63)) :: st)) : J X g h pc lv (.int y :: .long x :: st) := by
  intro H locs ls st' d0 a1 a2 a3 a4 b0
  obtain ⟨v0, r0, rfl, e0, b1⟩ := mc1 b0
  cases cn_i e0
  obtain ⟨v1, r1, rfl, e1, b2⟩ := mc1 b1
  cases cn_l e1
  exact lv_lshr F.1 F.2.1 hd rfl (k H locs ls _ d0 a1 a2 a3 a4 (by rw [List.map_cons, b2]; rfl))
theorem J_i2l (F : Fx X cc own) {x : Int32}  (hd : decode cc pc = .ok (.i2l, 1)) (k : J X g h (pc + 1) lv (.long (x.toInt64) :: st)) : J X g h pc lv (.int x :: st) := by
  intro H locs ls st' d0 a1 a2 a3 a4 b0
  obtain ⟨v0, r0, rfl, e0, b1⟩ := mc1 b0
  cases cn_i e0
  exact lv_i2l F.1 F.2.1 hd rfl (k H locs ls _ d0 a1 a2 a3 a4 (by rw [List.map_cons, b1]; rfl))
theorem J_l2i (F : Fx X cc own) {x : Int64}  (hd : decode cc pc = .ok (.l2i, 1)) (k : J X g h (pc + 1) lv (.int (x.toInt32) :: st)) : J X g h pc lv (.long x :: st) := by
  intro H locs ls st' d0 a1 a2 a3 a4 b0
  obtain ⟨v0, r0, rfl, e0, b1⟩ := mc1 b0
  cases cn_l e0
  exact lv_l2i F.1 F.2.1 hd rfl (k H locs ls _ d0 a1 a2 a3 a4 (by rw [List.map_cons, b1]; rfl))
theorem J_i2b (F : Fx X cc own) {x : Int32}  (hd : decode cc pc = .ok (.i2b, 1)) (k : J X g h (pc + 1) lv (.int (x.toInt8.toInt32) :: st)) : J X g h pc lv (.int x :: st) := by
  intro H locs ls st' d0 a1 a2 a3 a4 b0
  obtain ⟨v0, r0, rfl, e0, b1⟩ := mc1 b0
  cases cn_i e0
  exact lv_i2b F.1 F.2.1 hd rfl (k H locs ls _ d0 a1 a2 a3 a4 (by rw [List.map_cons, b1]; rfl))
theorem J_i2s (F : Fx X cc own) {x : Int32}  (hd : decode cc pc = .ok (.i2s, 1)) (k : J X g h (pc + 1) lv (.int (x.toInt16.toInt32) :: st)) : J X g h pc lv (.int x :: st) := by
  intro H locs ls st' d0 a1 a2 a3 a4 b0
  obtain ⟨v0, r0, rfl, e0, b1⟩ := mc1 b0
  cases cn_i e0
  exact lv_i2s F.1 F.2.1 hd rfl (k H locs ls _ d0 a1 a2 a3 a4 (by rw [List.map_cons, b1]; rfl))
theorem J_i2c (F : Fx X cc own) {x : Int32}  (hd : decode cc pc = .ok (.i2c, 1)) (k : J X g h (pc + 1) lv (.int ((x.toUInt32 % 65536).toInt32) :: st)) : J X g h pc lv (.int x :: st) := by
  intro H locs ls st' d0 a1 a2 a3 a4 b0
  obtain ⟨v0, r0, rfl, e0, b1⟩ := mc1 b0
  cases cn_i e0
  exact lv_i2c F.1 F.2.1 hd rfl (k H locs ls _ d0 a1 a2 a3 a4 (by rw [List.map_cons, b1]; rfl))
theorem J_lcmp (F : Fx X cc own) {x : Int64} {y : Int64}  (hd : decode cc pc = .ok (.lcmp, 1)) (k : J X g h (pc + 1) lv (.int (lg_cmp x y) :: st)) : J X g h pc lv (.long y :: .long x :: st) := by
  intro H locs ls st' d0 a1 a2 a3 a4 b0
  obtain ⟨v0, r0, rfl, e0, b1⟩ := mc1 b0
  cases cn_l e0
  obtain ⟨v1, r1, rfl, e1, b2⟩ := mc1 b1
  cases cn_l e1
  exact W.lcmp F.1 F.2.1 hd  (k H locs ls _ d0 a1 a2 a3 a4 (by rw [List.map_cons, b2]; rfl))
theorem J_i2d (F : Fx X cc own) {x : Int32}  (hd : decode cc pc = .ok (.i2d, 1)) (k : J X g h (pc + 1) lv (.double (fi2d x) :: st)) : J X g h pc lv (.int x :: st) := by
  intro H locs ls st' d0 a1 a2 a3 a4 b0
  obtain ⟨v0, r0, rfl, e0, b1⟩ := mc1 b0
  cases cn_i e0
  exact lv_i2d F.1 F.2.1 hd  (k H locs ls _ d0 a1 a2 a3 a4 (by rw [List.map_cons, b1]; rfl))
theorem J_l2d (F : Fx X cc own) {x : Int64}  (hd : decode cc pc = .ok (.l2d, 1)) (k : J X g h (pc + 1) lv (.double (fl2d x) :: st)) : J X g h pc lv (.long x :: st) := by
  intro H locs ls st' d0 a1 a2 a3 a4 b0
  obtain ⟨v0, r0, rfl, e0, b1⟩ := mc1 b0
  cases cn_l e0
  exact lv_l2d F.1 F.2.1 hd  (k H locs ls _ d0 a1 a2 a3 a4 (by rw [List.map_cons, b1]; rfl))
theorem J_dneg (F : Fx X cc own) {x : UInt64}  (hd : decode cc pc = .ok (.dneg, 1)) (k : J X g h (pc + 1) lv (.double (fneg x) :: st)) : J X g h pc lv (.double x :: st) := by
  intro H locs ls st' d0 a1 a2 a3 a4 b0
  obtain ⟨v0, r0, rfl, e0, b1⟩ := mc1 b0
  obtain ⟨ux, rfl, rfl⟩ := cn_d e0
  exact lv_dneg F.1 F.2.1 hd  (k H locs ls _ d0 a1 a2 a3 a4 (by rw [List.map_cons, b1]; show Value.double (cnD (FP.dneg ux)) :: _ = _; rw [← cnD_neg]; rfl))
theorem J_dcmp (F : Fx X cc own) {x : UInt64} {y : UInt64} {op : CmpOp} (hd : decode cc pc = .ok (.dcmp op, 1)) (k : J X g h (pc + 1) lv (.int (Op.cmpValue (FP.dcmp x y) op) :: st)) : J X g h pc lv (.double y :: .double x :: st) := by
  intro H locs ls st' d0 a1 a2 a3 a4 b0
  obtain ⟨v0, r0, rfl, e0, b1⟩ := mc1 b0
  obtain ⟨uy, rfl, rfl⟩ := cn_d e0
  obtain ⟨v1, r1, rfl, e1, b2⟩ := mc1 b1
  obtain ⟨ux, rfl, rfl⟩ := cn_d e1
  exact lv_dcmp F.1 F.2.1 hd  (k H locs ls _ d0 a1 a2 a3 a4 (by rw [List.map_cons, b2]; show Value.int _ :: _ = _; rw [cn_dcmp]))
theorem J_d2i (F : Fx X cc own) {x : UInt64}  (hd : decode cc pc = .ok (.d2i, 1)) (k : J X g h (pc + 1) lv (.int (FP.d2i x) :: st)) : J X g h pc lv (.double x :: st) := by
  intro H locs ls st' d0 a1 a2 a3 a4 b0
  obtain ⟨v0, r0, rfl, e0, b1⟩ := mc1 b0
  obtain ⟨ux, rfl, rfl⟩ := cn_d e0
  exact lv_d2i F.1 F.2.1 hd  (k H locs ls _ d0 a1 a2 a3 a4 (by rw [List.map_cons, b1]; show Value.int _ :: _ = _; rw [cn_d2i]))
theorem J_d2l (F : Fx X cc own) {x : UInt64}  (hd : decode cc pc = .ok (.d2l, 1)) (k : J X g h (pc + 1) lv (.long (FP.d2l x) :: st)) : J X g h pc lv (.double x :: st) := by
  intro H locs ls st' d0 a1 a2 a3 a4 b0
  obtain ⟨v0, r0, rfl, e0, b1⟩ := mc1 b0
  obtain ⟨ux, rfl, rfl⟩ := cn_d e0
  exact lv_d2l F.1 F.2.1 hd  (k H locs ls _ d0 a1 a2 a3 a4 (by rw [List.map_cons, b1]; show Value.long _ :: _ = _; rw [cn_d2l]))
theorem J_dadd (F : Fx X cc own) {x : UInt64} {y : UInt64} (hd : decode cc pc = .ok (.dadd, 1)) (k : J X g h (pc + 1) lv (.double (fadd x y) :: st)) : J X g h pc lv (.double y :: .double x :: st) := by
  intro H locs ls st' d0 a1 a2 a3 a4 b0
  obtain ⟨v0, r0, rfl, e0, b1⟩ := mc1 b0
  obtain ⟨uy, rfl, rfl⟩ := cn_d e0
  obtain ⟨v1, r1, rfl, e1, b2⟩ := mc1 b1
  obtain ⟨ux, rfl, rfl⟩ := cn_d e1
  refine lv_dadd_any a1 lw_bits F.1 F.2.1 hd (fun r d1 hal hd1 => k H locs ls _ d1 hd1 a2 a3 a4 (by
    rw [List.map_cons, b2]
    show Value.double (cnD r) :: _ = Value.double (cnD (FP.dadd (cnD ux) (cnD uy))) :: _
    rw [cn_dadd, cnD_alike hal]))
theorem J_dsub (F : Fx X cc own) {x : UInt64} {y : UInt64} (hd : decode cc pc = .ok (.dsub, 1)) (k : J X g h (pc + 1) lv (.double (fsub x y) :: st)) : J X g h pc lv (.double y :: .double x :: st) := by
  intro H locs ls st' d0 a1 a2 a3 a4 b0
  obtain ⟨v0, r0, rfl, e0, b1⟩ := mc1 b0
  obtain ⟨uy, rfl, rfl⟩ := cn_d e0
  obtain ⟨v1, r1, rfl, e1, b2⟩ := mc1 b1
  obtain ⟨ux, rfl, rfl⟩ := cn_d e1
  refine lv_dsub_any a1 lw_bits F.1 F.2.1 hd (fun r d1 hal hd1 => k H locs ls _ d1 hd1 a2 a3 a4 (by
    rw [List.map_cons, b2]
    show Value.double (cnD r) :: _ = Value.double (cnD (FP.dsub (cnD ux) (cnD uy))) :: _
    rw [cn_dsub, cnD_alike hal]))
theorem J_dmul (F : Fx X cc own) {x : UInt64} {y : UInt64} (hd : decode cc pc = .ok (.dmul, 1)) (k : J X g h (pc + 1) lv (.double (fmul x y) :: st)) : J X g h pc lv (.double y :: .double x :: st) := by
  intro H locs ls st' d0 a1 a2 a3 a4 b0
  obtain ⟨v0, r0, rfl, e0, b1⟩ := mc1 b0
  obtain ⟨uy, rfl, rfl⟩ := cn_d e0
  obtain ⟨v1, r1, rfl, e1, b2⟩ := mc1 b1
  obtain ⟨ux, rfl, rfl⟩ := cn_d e1
  refine lv_dmul_any a1 lw_bits F.1 F.2.1 hd (fun r d1 hal hd1 => k H locs ls _ d1 hd1 a2 a3 a4 (by
    rw [List.map_cons, b2]
    show Value.double (cnD r) :: _ = Value.double (cnD (FP.dmul (cnD ux) (cnD uy))) :: _
    rw [cn_dmul, cnD_alike hal]))
theorem J_ddiv (F : Fx X cc own) {x : UInt64} {y : UInt64} (hd : decode cc pc = .ok (.ddiv, 1)) (k : J X g h (pc + 1) lv (.double (fdiv x y) :: st)) : J X g h pc lv (.double y :: .double x :: st) := by
  intro H locs ls st' d0 a1 a2 a3 a4 b0
  obtain ⟨v0, r0, rfl, e0, b1⟩ := mc1 b0
  obtain ⟨uy, rfl, rfl⟩ := cn_d e0
  obtain ⟨v1, r1, rfl, e1, b2⟩ := mc1 b1
  obtain ⟨ux, rfl, rfl⟩ := cn_d e1
  refine lv_ddiv_any a1 lw_bits F.1 F.2.1 hd (fun r d1 hal hd1 => k H locs ls _ d1 hd1 a2 a3 a4 (by
    rw [List.map_cons, b2]
    show Value.double (cnD r) :: _ = Value.double (cnD (FP.ddiv (cnD ux) (cnD uy))) :: _
    rw [cn_ddiv, cnD_alike hal]))
theorem J_drem (F : Fx X cc own) {x : UInt64} {y : UInt64} (hd : decode cc pc = .ok (.drem, 1)) (k : J X g h (pc + 1) lv (.double (frem x y) :: st)) : J X g h pc lv (.double y :: .double x :: st) := by
  intro H locs ls st' d0 a1 a2 a3 a4 b0
  obtain ⟨v0, r0, rfl, e0, b1⟩ := mc1 b0
  obtain ⟨uy, rfl, rfl⟩ := cn_d e0
  obtain ⟨v1, r1, rfl, e1, b2⟩ := mc1 b1
  obtain ⟨ux, rfl, rfl⟩ := cn_d e1
  refine lv_drem_any a1 lw_bits F.1 F.2.1 hd (fun r d1 hal hd1 => k H locs ls _ d1 hd1 a2 a3 a4 (by
    rw [List.map_cons, b2]
    show Value.double (cnD r) :: _ = Value.double (cnD (FP.drem (cnD ux) (cnD uy))) :: _
    rw [cn_drem, cnD_alike hal]))
theorem J_d2f (F : Fx X cc own) {x : UInt64} (hd : decode cc pc = .ok (.d2f, 1)) (k : J X g h (pc + 1) lv (.float (cnF (FP.d2f x)) :: st)) : J X g h pc lv (.double x :: st) := by
  intro H locs ls st' d0 a1 a2 a3 a4 b0
  obtain ⟨v0, r0, rfl, e0, b1⟩ := mc1 b0
  obtain ⟨ux, rfl, rfl⟩ := cn_d e0
  refine lv_d2f_any a1 lw_bits F.1 F.2.1 hd (fun r d1 hal hd1 => k H locs ls _ d1 hd1 a2 a3 a4 (by
    rw [List.map_cons, b1]
    show Value.float (cnF r) :: _ = Value.float (cnF (FP.d2f (cnD ux))) :: _
    rw [cnF_d2f, cnF_alike hal]))
theorem J_f2d (F : Fx X cc own) {x : UInt32} (hd : decode cc pc = .ok (.f2d, 1)) (k : J X g h (pc + 1) lv (.double (cnD (FP.f2d x)) :: st)) : J X g h pc lv (.float x :: st) := by
  intro H locs ls st' d0 a1 a2 a3 a4 b0
  obtain ⟨v0, r0, rfl, e0, b1⟩ := mc1 b0
  obtain ⟨ux, rfl, rfl⟩ := cn_f e0
  refine lv_f2d_any a1 lw_bits F.1 F.2.1 hd (fun r d1 hal hd1 => k H locs ls _ d1 hd1 a2 a3 a4 (by
    rw [List.map_cons, b1]
    show Value.double (cnD r) :: _ = Value.double (cnD (FP.f2d (cnF ux))) :: _
    rw [cnD_f2d, cnD_alike hal]))
theorem J_iconst (F : Fx X cc own) {n : Int} {v : Int32} (hv : Int32.ofInt n = v) (hd : decode cc pc = .ok (.iconst n, 1)) (k : J X g h (pc + 1) lv (.int (v) :: st)) : J X g h pc lv st := by
  intro H locs ls st' d0 a1 a2 a3 a4 b0
  exact lv_iconst F.1 F.2.1 hd hv (k H locs ls _ d0 a1 a2 a3 a4 (by rw [List.map_cons, b0]; rfl))
theorem J_bipush (F : Fx X cc own) {n : Int} {v : Int32} (hv : (Int8.ofInt n).toInt32 = v) (hd : decode cc pc = .ok (.bipush n, 2)) (k : J X g h (pc + 2) lv (.int (v) :: st)) : J X g h pc lv st := by
  intro H locs ls st' d0 a1 a2 a3 a4 b0
  exact lv_bipush F.1 F.2.1 hd hv (k H locs ls _ d0 a1 a2 a3 a4 (by rw [List.map_cons, b0]; rfl))
theorem J_sipush (F : Fx X cc own) {n : Int} {v : Int32} (hv : (Int16.ofInt n).toInt32 = v) (hd : decode cc pc = .ok (.sipush n, 3)) (k : J X g h (pc + 3) lv (.int (v) :: st)) : J X g h pc lv st := by
  intro H locs ls st' d0 a1 a2 a3 a4 b0
  exact lv_sipush F.1 F.2.1 hd hv (k H locs ls _ d0 a1 a2 a3 a4 (by rw [List.map_cons, b0]; rfl))
theorem J_lconst (F : Fx X cc own) {n : Fin 2} {v : Int64} (hv : Int64.ofNat (n : Nat) = v) (hd : decode cc pc = .ok (.lconst n, 1)) (k : J X g h (pc + 1) lv (.long (v) :: st)) : J X g h pc lv st := by
  intro H locs ls st' d0 a1 a2 a3 a4 b0
  exact lv_lconst F.1 F.2.1 hd hv (k H locs ls _ d0 a1 a2 a3 a4 (by rw [List.map_cons, b0]; rfl))
theorem J_dconst0 (F : Fx X cc own)  (hd : decode cc pc = .ok (.dconst 0, 1)) (k : J X g h (pc + 1) lv (.double (0) :: st)) : J X g h pc lv st := by
  intro H locs ls st' d0 a1 a2 a3 a4 b0
  exact lv_dconst0 F.1 F.2.1 hd (k H locs ls _ d0 a1 a2 a3 a4 (by rw [List.map_cons, b0]; exact congrArg (· :: st) (congrArg Value.double (by decide +kernel))))
theorem J_dconst1 (F : Fx X cc own)  (hd : decode cc pc = .ok (.dconst 1, 1)) (k : J X g h (pc + 1) lv (.double (4607182418800017408) :: st)) : J X g h pc lv st := by
  intro H locs ls st' d0 a1 a2 a3 a4 b0
  exact lv_dconst1 F.1 F.2.1 hd (k H locs ls _ d0 a1 a2 a3 a4 (by rw [List.map_cons, b0]; exact congrArg (· :: st) (congrArg Value.double (by decide +kernel))))
theorem J_ldc (F : Fx X cc own) {index : Nat} {v : Int32} (hw : Cond.constant own index v ∈ lw_G) (hd : decode cc pc = .ok (.ldc index, 2)) (k : J X g h (pc + 2) lv (.int (v) :: st)) : J X g h pc lv st := by
  intro H locs ls st' d0 a1 a2 a3 a4 b0
  exact lv_ldc F.1 F.2.1 F.2.2.2.1 (dr_words F.2.2.2.2.1 d0 _ hw) hd (k H locs ls _ d0 a1 a2 a3 a4 (by rw [List.map_cons, b0]; rfl))
theorem J_ldcw (F : Fx X cc own) {index : Nat} {v : Int32} (hw : Cond.constant own index v ∈ lw_G) (hd : decode cc pc = .ok (.ldc_w index, 3)) (k : J X g h (pc + 3) lv (.int (v) :: st)) : J X g h pc lv st := by
  intro H locs ls st' d0 a1 a2 a3 a4 b0
  exact lv_ldcw F.1 F.2.1 F.2.2.2.1 (dr_words F.2.2.2.2.1 d0 _ hw) hd (k H locs ls _ d0 a1 a2 a3 a4 (by rw [List.map_cons, b0]; rfl))
theorem J_ldc2 (F : Fx X cc own) {index : Nat} {v : Int64} (hw : Cond.constantLong own index v ∈ lw_G) (hd : decode cc pc = .ok (.ldc2_w index, 3)) (k : J X g h (pc + 3) lv (.long (v) :: st)) : J X g h pc lv st := by
  intro H locs ls st' d0 a1 a2 a3 a4 b0
  exact lv_ldc2 F.1 F.2.1 F.2.2.2.1 (dr_words F.2.2.2.2.1 d0 _ hw) hd (k H locs ls _ d0 a1 a2 a3 a4 (by rw [List.map_cons, b0]; rfl))
theorem J_ldc2d (F : Fx X cc own) {index : Nat} {v : UInt64} (hw : Cond.constantDouble own index v ∈ lw_G) (hv : cnD v = v) (hd : decode cc pc = .ok (.ldc2_w index, 3)) (k : J X g h (pc + 3) lv (.double (v) :: st)) : J X g h pc lv st := by
  intro H locs ls st' d0 a1 a2 a3 a4 b0
  exact lv_ldc2d F.1 F.2.1 F.2.2.2.1 (dr_words F.2.2.2.2.1 d0 _ hw) hd (k H locs ls _ d0 a1 a2 a3 a4 (by rw [List.map_cons, b0]; show Value.double (cnD v) :: _ = _; rw [hv]))
theorem J_null (F : Fx X cc own) (hd : decode cc pc = .ok (.aconst_null, 1)) (k : J X g h (pc + 1) lv (va_rf none :: st)) : J X g h pc lv st := by
  intro H locs ls st' d0 a1 a2 a3 a4 b0
  exact lv_null F.1 F.2.1 hd (k H locs ls _ d0 a1 a2 a3 a4 (by rw [List.map_cons, b0]; rfl))
theorem J_iload_n (F : Fx X cc own) {k0 : Fin 4} {i : Nat} {x : Int32} (q : Nat) (hd : decode cc pc = .ok (.iload_n k0, 1)) (hi : (k0 : Nat) = i) (hk : lv[q]? = some (i, .int x)) (k : J X g h (pc + 1) lv (.int x :: st)) : J X g h pc lv st := by
  intro H locs ls st' d0 a1 a2 a3 a4 b0
  obtain ⟨v, e1, e2⟩ := lvc_at a4 q hk
  cases cn_i e2
  exact lv_iload_n F.1 F.2.1 hd hi e1 (k H locs ls _ d0 a1 a2 a3 a4 (by rw [List.map_cons, b0]; rfl))
theorem J_iload (F : Fx X cc own) {i : Nat} {x : Int32} (q : Nat) (hd : decode cc pc = .ok (.iload i, 2)) (hk : lv[q]? = some (i, .int x)) (k : J X g h (pc + 2) lv (.int x :: st)) : J X g h pc lv st := by
  intro H locs ls st' d0 a1 a2 a3 a4 b0
  obtain ⟨v, e1, e2⟩ := lvc_at a4 q hk
  cases cn_i e2
  exact lv_iload F.1 F.2.1 hd e1 (k H locs ls _ d0 a1 a2 a3 a4 (by rw [List.map_cons, b0]; rfl))
theorem J_lload_n (F : Fx X cc own) {k0 : Fin 4} {i : Nat} {x : Int64} (q : Nat) (hd : decode cc pc = .ok (.lload_n k0, 1)) (hi : (k0 : Nat) = i) (hk : lv[q]? = some (i, .long x)) (k : J X g h (pc + 1) lv (.long x :: st)) : J X g h pc lv st := by
  intro H locs ls st' d0 a1 a2 a3 a4 b0
  obtain ⟨v, e1, e2⟩ := lvc_at a4 q hk
  cases cn_l e2
  exact lv_lload_n F.1 F.2.1 hd hi e1 (k H locs ls _ d0 a1 a2 a3 a4 (by rw [List.map_cons, b0]; rfl))
theorem J_lload (F : Fx X cc own) {i : Nat} {x : Int64} (q : Nat) (hd : decode cc pc = .ok (.lload i, 2)) (hk : lv[q]? = some (i, .long x)) (k : J X g h (pc + 2) lv (.long x :: st)) : J X g h pc lv st := by
  intro H locs ls st' d0 a1 a2 a3 a4 b0
  obtain ⟨v, e1, e2⟩ := lvc_at a4 q hk
  cases cn_l e2
  exact lv_lload F.1 F.2.1 hd e1 (k H locs ls _ d0 a1 a2 a3 a4 (by rw [List.map_cons, b0]; rfl))
theorem J_dload_n (F : Fx X cc own) {k0 : Fin 4} {i : Nat} {x : UInt64} (q : Nat) (hd : decode cc pc = .ok (.dload_n k0, 1)) (hi : (k0 : Nat) = i) (hk : lv[q]? = some (i, .double x)) (k : J X g h (pc + 1) lv (.double x :: st)) : J X g h pc lv st := by
  intro H locs ls st' d0 a1 a2 a3 a4 b0
  obtain ⟨v, e1, e2⟩ := lvc_at a4 q hk
  obtain ⟨u, rfl, rfl⟩ := cn_d e2
  exact lv_dload_n F.1 F.2.1 hd hi e1 (k H locs ls _ d0 a1 a2 a3 a4 (by rw [List.map_cons, b0]; rfl))
theorem J_dload (F : Fx X cc own) {i : Nat} {x : UInt64} (q : Nat) (hd : decode cc pc = .ok (.dload i, 2)) (hk : lv[q]? = some (i, .double x)) (k : J X g h (pc + 2) lv (.double x :: st)) : J X g h pc lv st := by
  intro H locs ls st' d0 a1 a2 a3 a4 b0
  obtain ⟨v, e1, e2⟩ := lvc_at a4 q hk
  obtain ⟨u, rfl, rfl⟩ := cn_d e2
  exact lv_dload F.1 F.2.1 hd e1 (k H locs ls _ d0 a1 a2 a3 a4 (by rw [List.map_cons, b0]; rfl))
theorem J_aload_n (F : Fx X cc own) {k0 : Fin 4} {i : Nat} {x : Option Nat} (q : Nat) (hd : decode cc pc = .ok (.aload_n k0, 1)) (hi : (k0 : Nat) = i) (hk : lv[q]? = some (i, va_rf x)) (k : J X g h (pc + 1) lv (va_rf x :: st)) : J X g h pc lv st := by
  intro H locs ls st' d0 a1 a2 a3 a4 b0
  obtain ⟨v, e1, e2⟩ := lvc_at a4 q hk
  cases cn_q e2
  cases x with
  | none => exact lv_aload_nN F.1 F.2.1 hd hi e1 (k H locs ls _ d0 a1 a2 a3 a4 (by rw [List.map_cons, b0]; rfl))
  | some a => exact lv_aload_n F.1 F.2.1 hd hi e1 (k H locs ls _ d0 a1 a2 a3 a4 (by rw [List.map_cons, b0]; rfl))
theorem J_aload (F : Fx X cc own) {i : Nat} {x : Option Nat} (q : Nat) (hd : decode cc pc = .ok (.aload i, 2)) (hk : lv[q]? = some (i, va_rf x)) (k : J X g h (pc + 2) lv (va_rf x :: st)) : J X g h pc lv st := by
  intro H locs ls st' d0 a1 a2 a3 a4 b0
  obtain ⟨v, e1, e2⟩ := lvc_at a4 q hk
  cases cn_q e2
  cases x with
  | none => exact lv_aloadN F.1 F.2.1 hd e1 (k H locs ls _ d0 a1 a2 a3 a4 (by rw [List.map_cons, b0]; rfl))
  | some a => exact lv_aload F.1 F.2.1 hd e1 (k H locs ls _ d0 a1 a2 a3 a4 (by rw [List.map_cons, b0]; rfl))
theorem J_istore_n (F : Fx X cc own) {k0 : Fin 4} {i : Nat} {x : Int32} {lv2 : List (Nat × Value)} (hd : decode cc pc = .ok (.istore_n k0, 1)) (hi : (k0 : Nat) = i) (hn : i < xL X) (hl : ls1 i (.int x) lv = lv2) (k : J X g h (pc + 1) lv2 st) : J X g h pc lv (.int x :: st) := by
  intro H locs ls st' d0 a1 a2 a3 ⟨lv0, h1, h2⟩ b0
  obtain ⟨v, r, rfl, e1, b1⟩ := mc1 b0
  cases cn_i e1
  exact lv_istore_n F.1 F.2.1 hd hi h1 hn rfl (fun ls2 h3 => k H locs ls2 _ d0 a1 a2 a3 (hl ▸ lvc_mk _ (st1_P i) h2 h3) b1)
theorem J_istore (F : Fx X cc own) {i : Nat} {x : Int32} {lv2 : List (Nat × Value)} (hd : decode cc pc = .ok (.istore i, 2)) (hn : i < xL X) (hl : ls1 i (.int x) lv = lv2) (k : J X g h (pc + 2) lv2 st) : J X g h pc lv (.int x :: st) := by
  intro H locs ls st' d0 a1 a2 a3 ⟨lv0, h1, h2⟩ b0
  obtain ⟨v, r, rfl, e1, b1⟩ := mc1 b0
  cases cn_i e1
  exact lv_istore F.1 F.2.1 hd h1 hn rfl (fun ls2 h3 => k H locs ls2 _ d0 a1 a2 a3 (hl ▸ lvc_mk _ (st1_P i) h2 h3) b1)
theorem J_lstore_n (F : Fx X cc own) {k0 : Fin 4} {i : Nat} {x : Int64} {lv2 : List (Nat × Value)} (hd : decode cc pc = .ok (.lstore_n k0, 1)) (hi : (k0 : Nat) = i) (hn : i + 1 < xL X) (hl : ls2 i (.long x) lv = lv2) (k : J X g h (pc + 1) lv2 st) : J X g h pc lv (.long x :: st) := by
  intro H locs ls st' d0 a1 a2 a3 ⟨lv0, h1, h2⟩ b0
  obtain ⟨v, r, rfl, e1, b1⟩ := mc1 b0
  cases cn_l e1
  exact lv_lstore_n F.1 F.2.1 hd hi h1 hn rfl (fun ls2 h3 => k H locs ls2 _ d0 a1 a2 a3 (hl ▸ lvc_mk _ (st2_P i) h2 h3) b1)
theorem J_lstore (F : Fx X cc own) {i : Nat} {x : Int64} {lv2 : List (Nat × Value)} (hd : decode cc pc = .ok (.lstore i, 2)) (hn : i + 1 < xL X) (hl : ls2 i (.long x) lv = lv2) (k : J X g h (pc + 2) lv2 st) : J X g h pc lv (.long x :: st) := by
  intro H locs ls st' d0 a1 a2 a3 ⟨lv0, h1, h2⟩ b0
  obtain ⟨v, r, rfl, e1, b1⟩ := mc1 b0
  cases cn_l e1
  exact lv_lstore F.1 F.2.1 hd h1 hn rfl (fun ls2 h3 => k H locs ls2 _ d0 a1 a2 a3 (hl ▸ lvc_mk _ (st2_P i) h2 h3) b1)
theorem J_dstore_n (F : Fx X cc own) {k0 : Fin 4} {i : Nat} {x : UInt64} {lv2 : List (Nat × Value)} (hd : decode cc pc = .ok (.dstore_n k0, 1)) (hi : (k0 : Nat) = i) (hn : i + 1 < xL X) (hl : ls2 i (.double x) lv = lv2) (k : J X g h (pc + 1) lv2 st) : J X g h pc lv (.double x :: st) := by
  intro H locs ls st' d0 a1 a2 a3 ⟨lv0, h1, h2⟩ b0
  obtain ⟨v, r, rfl, e1, b1⟩ := mc1 b0
  obtain ⟨u, rfl, rfl⟩ := cn_d e1
  exact lv_dstore_n F.1 F.2.1 hd hi h1 hn rfl (fun ls2 h3 => k H locs ls2 _ d0 a1 a2 a3 (hl ▸ lvc_mk _ (st2_P i) h2 h3) b1)
theorem J_dstore (F : Fx X cc own) {i : Nat} {x : UInt64} {lv2 : List (Nat × Value)} (hd : decode cc pc = .ok (.dstore i, 2)) (hn : i + 1 < xL X) (hl : ls2 i (.double x) lv = lv2) (k : J X g h (pc + 2) lv2 st) : J X g h pc lv (.double x :: st) := by
  intro H locs ls st' d0 a1 a2 a3 ⟨lv0, h1, h2⟩ b0
  obtain ⟨v, r, rfl, e1, b1⟩ := mc1 b0
  obtain ⟨u, rfl, rfl⟩ := cn_d e1
  exact lv_dstore F.1 F.2.1 hd h1 hn rfl (fun ls2 h3 => k H locs ls2 _ d0 a1 a2 a3 (hl ▸ lvc_mk _ (st2_P i) h2 h3) b1)
theorem J_astore_n (F : Fx X cc own) {k0 : Fin 4} {i : Nat} {x : Option Nat} {lv2 : List (Nat × Value)} (hd : decode cc pc = .ok (.astore_n k0, 1)) (hi : (k0 : Nat) = i) (hn : i < xL X) (hl : ls1 i (va_rf x) lv = lv2) (k : J X g h (pc + 1) lv2 st) : J X g h pc lv (va_rf x :: st) := by
  intro H locs ls st' d0 a1 a2 a3 ⟨lv0, h1, h2⟩ b0
  obtain ⟨v, r, rfl, e1, b1⟩ := mc1 b0
  cases cn_q e1
  cases x with
  | none => exact lv_astore_nN F.1 F.2.1 hd hi h1 hn rfl (fun ls2 h3 => k H locs ls2 _ d0 a1 a2 a3 (hl ▸ lvc_mk (v := .null) _ (st1_P i) h2 h3) b1)
  | some a => exact lv_astore_n F.1 F.2.1 hd hi h1 hn rfl (fun ls2 h3 => k H locs ls2 _ d0 a1 a2 a3 (hl ▸ lvc_mk (v := .ref a) _ (st1_P i) h2 h3) b1)
theorem J_astore (F : Fx X cc own) {i : Nat} {x : Option Nat} {lv2 : List (Nat × Value)} (hd : decode cc pc = .ok (.astore i, 2)) (hn : i < xL X) (hl : ls1 i (va_rf x) lv = lv2) (k : J X g h (pc + 2) lv2 st) : J X g h pc lv (va_rf x :: st) := by
  intro H locs ls st' d0 a1 a2 a3 ⟨lv0, h1, h2⟩ b0
  obtain ⟨v, r, rfl, e1, b1⟩ := mc1 b0
  cases cn_q e1
  cases x with
  | none => exact lv_astoreN F.1 F.2.1 hd h1 hn rfl (fun ls2 h3 => k H locs ls2 _ d0 a1 a2 a3 (hl ▸ lvc_mk (v := .null) _ (st1_P i) h2 h3) b1)
  | some a => exact lv_astore F.1 F.2.1 hd h1 hn rfl (fun ls2 h3 => k H locs ls2 _ d0 a1 a2 a3 (hl ▸ lvc_mk (v := .ref a) _ (st1_P i) h2 h3) b1)
theorem J_iinc (F : Fx X cc own) {i : Nat} {n : Int} {x v : Int32} {lv2 : List (Nat × Value)} (q : Nat) (hd : decode cc pc = .ok (.iinc i n, 3)) (hk : lv[q]? = some (i, .int x)) (hv : Int32.ofInt n = v) (hn : i < xL X) (hl : ls1 i (.int (x + v)) lv = lv2) (k : J X g h (pc + 3) lv2 st) : J X g h pc lv st := by
  intro H locs ls st' d0 a1 a2 a3 ⟨lv0, h1, h2⟩ b0
  obtain ⟨w, e1, e2⟩ := lvc_at ⟨lv0, h1, h2⟩ q hk
  have hk0 : lv0[q]? = some (i, .int x) := by
    rw [← h2, List.getElem?_map] at hk
    cases hq : lv0[q]? with
    | none => rw [hq] at hk; cases hk
    | some z =>
      rw [hq] at hk
      obtain ⟨a, b⟩ := z
      simp only [Option.map_some, Option.some.injEq, cq, Prod.mk.injEq] at hk
      obtain ⟨rfl, hb⟩ := hk
      rw [cn_i hb]
  exact lv_iinc (v := x + v) F.1 F.2.1 hd h1 hk0 (by rw [hv]) hn rfl (fun ls2 h3 => k H locs ls2 _ d0 a1 a2 a3 (hl ▸ lvc_mk (v := .int (x + v)) _ (st1_P i) h2 h3) b0)
theorem J_dup (F : Fx X cc own) {a : Value} (hd : decode cc pc = .ok (.dup, 1)) (ha : a.category = 1) (k : J X g h (pc + 1) lv (a :: a :: st)) : J X g h pc lv (a :: st) := by
  intro H locs ls st' d0 a1 a2 a3 a4 b0
  obtain ⟨v, r, rfl, rfl, b1⟩ := mc1 b0
  exact lv_dup F.1 F.2.1 hd (by rw [← cn_cat]; exact ha) (k H locs ls _ d0 a1 a2 a3 a4 (by rw [List.map_cons, List.map_cons, b1]))
theorem J_pop (F : Fx X cc own) {a : Value} (hd : decode cc pc = .ok (.pop, 1)) (ha : a.category = 1) (k : J X g h (pc + 1) lv st) : J X g h pc lv (a :: st) := by
  intro H locs ls st' d0 a1 a2 a3 a4 b0
  obtain ⟨v, r, rfl, rfl, b1⟩ := mc1 b0
  exact lv_pop F.1 F.2.1 hd (by rw [← cn_cat]; exact ha) (k H locs ls _ d0 a1 a2 a3 a4 b1)
theorem J_dup_x1 (F : Fx X cc own) {a b : Value} (hd : decode cc pc = .ok (.dup_x1, 1)) (ha : a.category = 1) (hb : b.category = 1) (k : J X g h (pc + 1) lv (a :: b :: a :: st)) : J X g h pc lv (a :: b :: st) := by
  intro H locs ls st' d0 a1 a2 a3 a4 b0
  obtain ⟨v, r, rfl, rfl, b1⟩ := mc1 b0
  obtain ⟨v2, r2, rfl, rfl, b2⟩ := mc1 b1
  exact lv_dup_x1 F.1 F.2.1 hd (by rw [← cn_cat]; exact ha) (by rw [← cn_cat]; exact hb) (k H locs ls _ d0 a1 a2 a3 a4 (by rw [List.map_cons, List.map_cons, List.map_cons, b2]))
theorem J_dup2 (F : Fx X cc own) {a b : Value} (hd : decode cc pc = .ok (.dup2, 1)) (ha : a.category = 1) (hb : b.category = 1) (k : J X g h (pc + 1) lv (a :: b :: a :: b :: st)) : J X g h pc lv (a :: b :: st) := by
  intro H locs ls st' d0 a1 a2 a3 a4 b0
  obtain ⟨v, r, rfl, rfl, b1⟩ := mc1 b0
  obtain ⟨v2, r2, rfl, rfl, b2⟩ := mc1 b1
  exact lv_dup2_11 F.1 F.2.1 hd (by rw [← cn_cat]; exact ha) (by rw [← cn_cat]; exact hb) (k H locs ls _ d0 a1 a2 a3 a4 (by rw [List.map_cons, List.map_cons, List.map_cons, List.map_cons, b2]))
theorem J_goto (F : Fx X cc own) {off : Int} (tgt : Nat) (hd : decode cc pc = .ok (.goto off, 3)) (ht : (pc : Int) + off = (tgt : Int)) (k : J X g h tgt lv st) : J X g h pc lv st := by
  intro H locs ls st' d0 a1 a2 a3 a4 b0
  exact lv_goto F.1 F.2.1 hd ht (k H locs ls _ d0 a1 a2 a3 a4 b0)
theorem J_if_eq (F : Fx X cc own) {x : Int32} {off : Int} (tgt : Nat) (hd : decode cc pc = .ok (.ifCond .eq off, 3)) (ht : (pc : Int) + off = (tgt : Int)) (kt : x = 0 → J X g h tgt lv st) (kf : ¬ x = 0 → J X g h (pc + 3) lv st) : J X g h pc lv (.int x :: st) := by
  intro H locs ls st' d0 a1 a2 a3 a4 b0
  obtain ⟨v, r, rfl, e1, b1⟩ := mc1 b0
  cases cn_i e1
  exact lv_if_eq F.1 F.2.1 hd ht (fun q => kt q H locs ls _ d0 a1 a2 a3 a4 b1) (fun q => kf q H locs ls _ d0 a1 a2 a3 a4 b1)
theorem J_icmp_eq (F : Fx X cc own) {x y : Int32} {off : Int} (tgt : Nat) (hd : decode cc pc = .ok (.if_icmp .eq off, 3)) (ht : (pc : Int) + off = (tgt : Int)) (kt : x = y → J X g h tgt lv st) (kf : ¬ x = y → J X g h (pc + 3) lv st) : J X g h pc lv (.int y :: .int x :: st) := by
  intro H locs ls st' d0 a1 a2 a3 a4 b0
  obtain ⟨v, r, rfl, e1, b1⟩ := mc1 b0
  obtain ⟨v2, r2, rfl, e2, b2⟩ := mc1 b1
  cases cn_i e1; cases cn_i e2
  exact lv_icmp_eq F.1 F.2.1 hd ht (fun q => kt q H locs ls _ d0 a1 a2 a3 a4 b2) (fun q => kf q H locs ls _ d0 a1 a2 a3 a4 b2)
theorem J_if_ne (F : Fx X cc own) {x : Int32} {off : Int} (tgt : Nat) (hd : decode cc pc = .ok (.ifCond .ne off, 3)) (ht : (pc : Int) + off = (tgt : Int)) (kt : ¬ x = 0 → J X g h tgt lv st) (kf : x = 0 → J X g h (pc + 3) lv st) : J X g h pc lv (.int x :: st) := by
  intro H locs ls st' d0 a1 a2 a3 a4 b0
  obtain ⟨v, r, rfl, e1, b1⟩ := mc1 b0
  cases cn_i e1
  exact lv_if_ne F.1 F.2.1 hd ht (fun q => kt q H locs ls _ d0 a1 a2 a3 a4 b1) (fun q => kf q H locs ls _ d0 a1 a2 a3 a4 b1)
theorem J_icmp_ne (F : Fx X cc own) {x y : Int32} {off : Int} (tgt : Nat) (hd : decode cc pc = .ok (.if_icmp .ne off, 3)) (ht : (pc : Int) + off = (tgt : Int)) (kt : ¬ x = y → J X g h tgt lv st) (kf : x = y → J X g h (pc + 3) lv st) : J X g h pc lv (.int y :: .int x :: st) := by
  intro H locs ls st' d0 a1 a2 a3 a4 b0
  obtain ⟨v, r, rfl, e1, b1⟩ := mc1 b0
  obtain ⟨v2, r2, rfl, e2, b2⟩ := mc1 b1
  cases cn_i e1; cases cn_i e2
  exact lv_icmp_ne F.1 F.2.1 hd ht (fun q => kt q H locs ls _ d0 a1 a2 a3 a4 b2) (fun q => kf q H locs ls _ d0 a1 a2 a3 a4 b2)
theorem J_if_lt (F : Fx X cc own) {x : Int32} {off : Int} (tgt : Nat) (hd : decode cc pc = .ok (.ifCond .lt off, 3)) (ht : (pc : Int) + off = (tgt : Int)) (kt : x < 0 → J X g h tgt lv st) (kf : ¬ x < 0 → J X g h (pc + 3) lv st) : J X g h pc lv (.int x :: st) := by
  intro H locs ls st' d0 a1 a2 a3 a4 b0
  obtain ⟨v, r, rfl, e1, b1⟩ := mc1 b0
  cases cn_i e1
  exact lv_if_lt F.1 F.2.1 hd ht (fun q => kt q H locs ls _ d0 a1 a2 a3 a4 b1) (fun q => kf q H locs ls _ d0 a1 a2 a3 a4 b1)
theorem J_icmp_lt (F : Fx X cc own) {x y : Int32} {off : Int} (tgt : Nat) (hd : decode cc pc = .ok (.if_icmp .lt off, 3)) (ht : (pc : Int) + off = (tgt : Int)) (kt : x < y → J X g h tgt lv st) (kf : ¬ x < y → J X g h (pc + 3) lv st) : J X g h pc lv (.int y :: .int x :: st) := by
  intro H locs ls st' d0 a1 a2 a3 a4 b0
  obtain ⟨v, r, rfl, e1, b1⟩ := mc1 b0
  obtain ⟨v2, r2, rfl, e2, b2⟩ := mc1 b1
  cases cn_i e1; cases cn_i e2
  exact lv_icmp_lt F.1 F.2.1 hd ht (fun q => kt q H locs ls _ d0 a1 a2 a3 a4 b2) (fun q => kf q H locs ls _ d0 a1 a2 a3 a4 b2)
theorem J_if_ge (F : Fx X cc own) {x : Int32} {off : Int} (tgt : Nat) (hd : decode cc pc = .ok (.ifCond .ge off, 3)) (ht : (pc : Int) + off = (tgt : Int)) (kt : 0 ≤ x → J X g h tgt lv st) (kf : ¬ 0 ≤ x → J X g h (pc + 3) lv st) : J X g h pc lv (.int x :: st) := by
  intro H locs ls st' d0 a1 a2 a3 a4 b0
  obtain ⟨v, r, rfl, e1, b1⟩ := mc1 b0
  cases cn_i e1
  exact lv_if_ge F.1 F.2.1 hd ht (fun q => kt q H locs ls _ d0 a1 a2 a3 a4 b1) (fun q => kf q H locs ls _ d0 a1 a2 a3 a4 b1)
theorem J_icmp_ge (F : Fx X cc own) {x y : Int32} {off : Int} (tgt : Nat) (hd : decode cc pc = .ok (.if_icmp .ge off, 3)) (ht : (pc : Int) + off = (tgt : Int)) (kt : y ≤ x → J X g h tgt lv st) (kf : ¬ y ≤ x → J X g h (pc + 3) lv st) : J X g h pc lv (.int y :: .int x :: st) := by
  intro H locs ls st' d0 a1 a2 a3 a4 b0
  obtain ⟨v, r, rfl, e1, b1⟩ := mc1 b0
  obtain ⟨v2, r2, rfl, e2, b2⟩ := mc1 b1
  cases cn_i e1; cases cn_i e2
  exact lv_icmp_ge F.1 F.2.1 hd ht (fun q => kt q H locs ls _ d0 a1 a2 a3 a4 b2) (fun q => kf q H locs ls _ d0 a1 a2 a3 a4 b2)
theorem J_if_gt (F : Fx X cc own) {x : Int32} {off : Int} (tgt : Nat) (hd : decode cc pc = .ok (.ifCond .gt off, 3)) (ht : (pc : Int) + off = (tgt : Int)) (kt : 0 < x → J X g h tgt lv st) (kf : ¬ 0 < x → J X g h (pc + 3) lv st) : J X g h pc lv (.int x :: st) := by
  intro H locs ls st' d0 a1 a2 a3 a4 b0
  obtain ⟨v, r, rfl, e1, b1⟩ := mc1 b0
  cases cn_i e1
  exact lv_if_gt F.1 F.2.1 hd ht (fun q => kt q H locs ls _ d0 a1 a2 a3 a4 b1) (fun q => kf q H locs ls _ d0 a1 a2 a3 a4 b1)
theorem J_icmp_gt (F : Fx X cc own) {x y : Int32} {off : Int} (tgt : Nat) (hd : decode cc pc = .ok (.if_icmp .gt off, 3)) (ht : (pc : Int) + off = (tgt : Int)) (kt : y < x → J X g h tgt lv st) (kf : ¬ y < x → J X g h (pc + 3) lv st) : J X g h pc lv (.int y :: .int x :: st) := by
  intro H locs ls st' d0 a1 a2 a3 a4 b0
  obtain ⟨v, r, rfl, e1, b1⟩ := mc1 b0
  obtain ⟨v2, r2, rfl, e2, b2⟩ := mc1 b1
  cases cn_i e1; cases cn_i e2
  exact lv_icmp_gt F.1 F.2.1 hd ht (fun q => kt q H locs ls _ d0 a1 a2 a3 a4 b2) (fun q => kf q H locs ls _ d0 a1 a2 a3 a4 b2)
theorem J_if_le (F : Fx X cc own) {x : Int32} {off : Int} (tgt : Nat) (hd : decode cc pc = .ok (.ifCond .le off, 3)) (ht : (pc : Int) + off = (tgt : Int)) (kt : x ≤ 0 → J X g h tgt lv st) (kf : ¬ x ≤ 0 → J X g h (pc + 3) lv st) : J X g h pc lv (.int x :: st) := by
  intro H locs ls st' d0 a1 a2 a3 a4 b0
  obtain ⟨v, r, rfl, e1, b1⟩ := mc1 b0
  cases cn_i e1
  exact lv_if_le F.1 F.2.1 hd ht (fun q => kt q H locs ls _ d0 a1 a2 a3 a4 b1) (fun q => kf q H locs ls _ d0 a1 a2 a3 a4 b1)
theorem J_icmp_le (F : Fx X cc own) {x y : Int32} {off : Int} (tgt : Nat) (hd : decode cc pc = .ok (.if_icmp .le off, 3)) (ht : (pc : Int) + off = (tgt : Int)) (kt : x ≤ y → J X g h tgt lv st) (kf : ¬ x ≤ y → J X g h (pc + 3) lv st) : J X g h pc lv (.int y :: .int x :: st) := by
  intro H locs ls st' d0 a1 a2 a3 a4 b0
  obtain ⟨v, r, rfl, e1, b1⟩ := mc1 b0
  obtain ⟨v2, r2, rfl, e2, b2⟩ := mc1 b1
  cases cn_i e1; cases cn_i e2
  exact lv_icmp_le F.1 F.2.1 hd ht (fun q => kt q H locs ls _ d0 a1 a2 a3 a4 b2) (fun q => kf q H locs ls _ d0 a1 a2 a3 a4 b2)
theorem J_acmp_eq (F : Fx X cc own) {x y : Option Nat} {off : Int} (tgt : Nat) (hd : decode cc pc = .ok (.if_acmp .eq off, 3)) (ht : (pc : Int) + off = (tgt : Int)) (kt : x = y → J X g h tgt lv st) (kf : ¬ x = y → J X g h (pc + 3) lv st) : J X g h pc lv (va_rf y :: va_rf x :: st) := by
  intro H locs ls st' d0 a1 a2 a3 a4 b0
  obtain ⟨v, r, rfl, e1, b1⟩ := mc1 b0
  obtain ⟨v2, r2, rfl, e2, b2⟩ := mc1 b1
  cases cn_q e1; cases cn_q e2
  exact lv_acmp_eq F.1 F.2.1 hd ht (fun q => kt q H locs ls _ d0 a1 a2 a3 a4 b2) (fun q => kf q H locs ls _ d0 a1 a2 a3 a4 b2)
theorem J_acmp_ne (F : Fx X cc own) {x y : Option Nat} {off : Int} (tgt : Nat) (hd : decode cc pc = .ok (.if_acmp .ne off, 3)) (ht : (pc : Int) + off = (tgt : Int)) (kt : ¬ x = y → J X g h tgt lv st) (kf : x = y → J X g h (pc + 3) lv st) : J X g h pc lv (va_rf y :: va_rf x :: st) := by
  intro H locs ls st' d0 a1 a2 a3 a4 b0
  obtain ⟨v, r, rfl, e1, b1⟩ := mc1 b0
  obtain ⟨v2, r2, rfl, e2, b2⟩ := mc1 b1
  cases cn_q e1; cases cn_q e2
  exact lv_acmp_ne F.1 F.2.1 hd ht (fun q => kt q H locs ls _ d0 a1 a2 a3 a4 b2) (fun q => kf q H locs ls _ d0 a1 a2 a3 a4 b2)
theorem J_ifnull (F : Fx X cc own) {x : Option Nat} {off : Int} (tgt : Nat) (hd : decode cc pc = .ok (.ifnull off, 3)) (ht : (pc : Int) + off = (tgt : Int)) (kt : x = none → J X g h tgt lv st) (kf : ¬ x = none → J X g h (pc + 3) lv st) : J X g h pc lv (va_rf x :: st) := by
  intro H locs ls st' d0 a1 a2 a3 a4 b0
  obtain ⟨v, r, rfl, e1, b1⟩ := mc1 b0
  cases cn_q e1
  cases x with
  | none => exact lv_ifnullN F.1 F.2.1 hd ht (kt rfl H locs ls _ d0 a1 a2 a3 a4 b1)
  | some a => exact lv_ifnull F.1 F.2.1 hd (kf (fun q => by cases q) H locs ls _ d0 a1 a2 a3 a4 b1)
theorem J_ifnonnull (F : Fx X cc own) {x : Option Nat} {off : Int} (tgt : Nat) (hd : decode cc pc = .ok (.ifnonnull off, 3)) (ht : (pc : Int) + off = (tgt : Int)) (kt : ¬ x = none → J X g h tgt lv st) (kf : x = none → J X g h (pc + 3) lv st) : J X g h pc lv (va_rf x :: st) := by
  intro H locs ls st' d0 a1 a2 a3 a4 b0
  obtain ⟨v, r, rfl, e1, b1⟩ := mc1 b0
  cases cn_q e1
  cases x with
  | none => exact lv_ifnonnullN F.1 F.2.1 hd (kf rfl H locs ls _ d0 a1 a2 a3 a4 b1)
  | some a => exact lv_ifnonnull F.1 F.2.1 hd ht (kt (fun q => by cases q) H locs ls _ d0 a1 a2 a3 a4 b1)
theorem J_tabOut (F : Fx X cc own) {dflt lo hi : Int} {offs : Array Int} {len : Nat} {x : Int32} (tgt : Nat) (hd : decode cc pc = .ok (.tableswitch dflt lo hi offs, len)) (hx : x.toInt < lo ∨ hi < x.toInt) (ht : (pc : Int) + dflt = (tgt : Int)) (k : J X g h tgt lv st) : J X g h pc lv (.int x :: st) := by
  intro H locs ls st' d0 a1 a2 a3 a4 b0
  obtain ⟨v, r, rfl, e1, b1⟩ := mc1 b0
  cases cn_i e1
  exact lv_tableOut F.1 F.2.1 hd hx ht (k H locs ls _ d0 a1 a2 a3 a4 b1)
theorem J_tabIn (F : Fx X cc own) {dflt lo hi : Int} {offs : Array Int} {len : Nat} {x : Int32} {off : Int} (tgt : Nat) (hd : decode cc pc = .ok (.tableswitch dflt lo hi offs, len)) (h1 : ¬ x.toInt < lo) (h2 : ¬ hi < x.toInt) (ho : offs[(x.toInt - lo).toNat]? = some off) (ht : (pc : Int) + off = (tgt : Int)) (k : J X g h tgt lv st) : J X g h pc lv (.int x :: st) := by
  intro H locs ls st' d0 a1 a2 a3 a4 b0
  obtain ⟨v, r, rfl, e1, b1⟩ := mc1 b0
  cases cn_i e1
  exact lv_tableIn F.1 F.2.1 hd h1 h2 ho ht (k H locs ls _ d0 a1 a2 a3 a4 b1)
theorem J_lookup (F : Fx X cc own) {dflt : Int} {ps : Array (Int × Int)} {len : Nat} {x : Int32} {off : Int} (tgt : Nat) (hd : decode cc pc = .ok (.lookupswitch dflt ps, len)) (hp : (ps.toList.zip (ps.toList.drop 1)).all (fun (a, next) => a.1 < next.1) = true) (ho : Op.lookupswitch.offset ps.toList dflt x.toInt = off) (ht : (pc : Int) + off = (tgt : Int)) (k : J X g h tgt lv st) : J X g h pc lv (.int x :: st) := by
  intro H locs ls st' d0 a1 a2 a3 a4 b0
  obtain ⟨v, r, rfl, e1, b1⟩ := mc1 b0
  cases cn_i e1
  exact lv_lookup F.1 F.2.1 hd hp ho ht (k H locs ls _ d0 a1 a2 a3 a4 b1)
end JR
