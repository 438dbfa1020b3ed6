/-! NUMBERS: bits as whole numbers with sign, comparisons, where an operation gives no number -/
abbrev KD (a : UInt64) : Int := FP.Core.dkey a
abbrev INFK : Int := 9218868437227405312
theorem nn_ne {a : UInt64} (h : FP.dIsNaN a = false) : FP.Core.val64 a ≠ .nan := (FP.Core.notNaN_iff a).mp h
theorem nn_of {a : UInt64} (h : FP.Core.val64 a ≠ .nan) : FP.dIsNaN a = false := (FP.Core.notNaN_iff a).mpr h
theorem kd_bound {a : UInt64} (h : FP.dIsNaN a = false) : -INFK ≤ KD a ∧ KD a ≤ INFK := by
  have h1 := (FP.Core.ne_nan a).mp (nn_ne h)
  have h2 := a.toNat_lt
  unfold KD FP.Core.dkey INFK
  split <;> omega
theorem kd_nan {a : UInt64} (h : FP.dIsNaN a = true) : KD a < -INFK ∨ INFK < KD a := by
  have h1 := (FP.Core.isNaN_bits a).mp h
  have h2 := a.toNat_lt
  unfold KD FP.Core.dkey INFK
  split <;> omega
theorem kd_zero {a : UInt64} : FP.Core.DZero a ↔ KD a = 0 := by
  rw [FP.Core.zero_bits2]
  have h2 := a.toNat_lt
  unfold KD FP.Core.dkey
  split <;> omega
theorem kd_inj {a b : UInt64} (h : KD a = KD b) (h0 : KD a ≠ 0) : a = b := by
  have h1 := a.toNat_lt
  have h2 := b.toNat_lt
  apply UInt64.toNat.inj
  unfold KD FP.Core.dkey at h h0
  split at h <;> split at h <;> omega
theorem kd_pinf : KD 9218868437227405312 = INFK := by decide +kernel
theorem kd_ninf : KD 18442240474082181120 = -INFK := by decide +kernel
theorem val_pinf : FP.Core.val64 9218868437227405312 = .inf false := by decide +kernel
theorem val_ninf : FP.Core.val64 18442240474082181120 = .inf true := by decide +kernel
theorem kd_inf {a : UInt64} (s : Bool) : FP.Core.val64 a = .inf s ↔ KD a = if s then -INFK else INFK := by
  constructor
  · intro h
    cases s
    · rw [FP.Core.val64_inj (a := a) (b := 9218868437227405312) (by rw [h]; exact fun z => by cases z) (h.trans val_pinf.symm)]; exact kd_pinf
    · rw [FP.Core.val64_inj (a := a) (b := 18442240474082181120) (by rw [h]; exact fun z => by cases z) (h.trans val_ninf.symm)]; exact kd_ninf
  · intro h
    cases s
    · rw [kd_inj (a := a) (b := 9218868437227405312) (h.trans kd_pinf.symm) (by rw [h]; decide)]; exact val_pinf
    · rw [kd_inj (a := a) (b := 18442240474082181120) (h.trans kd_ninf.symm) (by rw [h]; decide)]; exact val_ninf
theorem cnD_nn {a : UInt64} (h : FP.dIsNaN a = false) : cnD a = a := by unfold cnD; rw [h]; rfl
theorem cnD_N {a : UInt64} (h : FP.dIsNaN a = true) : cnD a = NaNc := by unfold cnD; rw [h]; rfl
theorem NaNc_nan : FP.dIsNaN NaNc = true := by decide +kernel
theorem kd_neg {a : UInt64} : KD (FP.dneg a) = - KD a := by
  have h2 := a.toNat_lt
  have h3 := FP.xor_top (a := a.toNat) (k := 63) h2
  have h4 : (FP.dneg a).toNat = a.toNat ^^^ 2 ^ 63 := by rw [FP.dneg_xor, UInt64.toNat_xor]; rfl
  unfold KD FP.Core.dkey
  rw [h4]
  by_cases h : 2 ^ 63 ≤ a.toNat
  · rw [h3.2 h, if_pos h]
    split <;> omega
  · rw [h3.1 (by omega), if_neg h]
    split <;> omega
theorem neg_nn {a : UInt64} (h : FP.dIsNaN a = false) : FP.dIsNaN (FP.dneg a) = false := by rw [FP.dneg_nan]; exact h
theorem fneg_nn {a : UInt64} (h : FP.dIsNaN a = false) : fneg a = FP.dneg a := cnD_nn (neg_nn h)
-- comparisons
theorem fc_val {a b : UInt64} (ha : FP.dIsNaN a = false) (hb : FP.dIsNaN b = false) (o : CmpOp) : Op.cmpValue (FP.dcmp a b) o = if KD a < KD b then -1 else if KD a = KD b then 0 else 1 := by
  have h : FP.dcmp a b = some (compare (KD a) (KD b)) := FP.Core.dcmp_key (nn_ne ha) (nn_ne hb)
  rw [h]
  by_cases h1 : KD a < KD b
  · rw [(FP.Core.compare_lt_iff _ _).mpr h1, if_pos h1]; rfl
  · by_cases h2 : KD a = KD b
    · rw [(FP.Core.compare_eq_iff _ _).mpr h2, if_neg h1, if_pos h2]; rfl
    · rw [(FP.Core.compare_gt_iff _ _).mpr (by omega), if_neg h1, if_neg h2]; rfl
section FCV
variable {a b : UInt64}
theorem fc_eq (ha : FP.dIsNaN a = false) (hb : FP.dIsNaN b = false) {o : CmpOp} : (Op.cmpValue (FP.dcmp a b) o = 0) = (KD a = KD b) := by
  rw [fc_val ha hb]; apply propext
  split
  · exact ⟨fun h => absurd h (by decide), fun h => by omega⟩
  · split
    · exact ⟨fun _ => by assumption, fun _ => rfl⟩
    · exact ⟨fun h => absurd h (by decide), fun h => by omega⟩
theorem fc_lt (ha : FP.dIsNaN a = false) (hb : FP.dIsNaN b = false) {o : CmpOp} : (Op.cmpValue (FP.dcmp a b) o < 0) = (KD a < KD b) := by
  rw [fc_val ha hb]; apply propext
  split
  · exact ⟨fun _ => by assumption, fun _ => by decide⟩
  · split
    · exact ⟨fun h => absurd h (by decide), fun h => by omega⟩
    · exact ⟨fun h => absurd h (by decide), fun h => by omega⟩
theorem fc_ge (ha : FP.dIsNaN a = false) (hb : FP.dIsNaN b = false) {o : CmpOp} : (0 ≤ Op.cmpValue (FP.dcmp a b) o) = (KD b ≤ KD a) := by
  rw [fc_val ha hb]; apply propext
  split
  · exact ⟨fun h => absurd h (by decide), fun h => by omega⟩
  · split
    · exact ⟨fun _ => by omega, fun _ => by decide⟩
    · exact ⟨fun _ => by omega, fun _ => by decide⟩
theorem fc_gt (ha : FP.dIsNaN a = false) (hb : FP.dIsNaN b = false) {o : CmpOp} : (0 < Op.cmpValue (FP.dcmp a b) o) = (KD b < KD a) := by
  rw [fc_val ha hb]; apply propext
  split
  · exact ⟨fun h => absurd h (by decide), fun h => by omega⟩
  · split
    · exact ⟨fun h => absurd h (by decide), fun h => by omega⟩
    · exact ⟨fun _ => by omega, fun _ => by decide⟩
theorem fc_le (ha : FP.dIsNaN a = false) (hb : FP.dIsNaN b = false) {o : CmpOp} : (Op.cmpValue (FP.dcmp a b) o ≤ 0) = (KD a ≤ KD b) := by
  rw [fc_val ha hb]; apply propext
  split
  · exact ⟨fun _ => by omega, fun _ => by decide⟩
  · split
    · exact ⟨fun _ => by omega, fun _ => by decide⟩
    · exact ⟨fun h => absurd h (by decide), fun h => by omega⟩
end FCV
theorem fc_nl {a b : UInt64} (h : FP.dIsNaN a = true ∨ FP.dIsNaN b = true) : Op.cmpValue (FP.dcmp a b) .l = -1 := by
  have : FP.dcmp a b = none := (FP.Core.dcmp_none a b).mpr (h.imp (fun z => (FP.Core.dIsNaN_iff a).mp z) (fun z => (FP.Core.dIsNaN_iff b).mp z))
  rw [this]; rfl
theorem fc_ng {a b : UInt64} (h : FP.dIsNaN a = true ∨ FP.dIsNaN b = true) : Op.cmpValue (FP.dcmp a b) .g = 1 := by
  have : FP.dcmp a b = none := (FP.Core.dcmp_none a b).mpr (h.imp (fun z => (FP.Core.dIsNaN_iff a).mp z) (fun z => (FP.Core.dIsNaN_iff b).mp z))
  rw [this]; rfl
theorem nn_0 : FP.dIsNaN 0 = false := by decide +kernel
theorem nn_n0 : FP.dIsNaN 9223372036854775808 = false := by decide +kernel
theorem nn_1 : FP.dIsNaN 4607182418800017408 = false := by decide +kernel
theorem nn_pinf : FP.dIsNaN 9218868437227405312 = false := by decide +kernel
theorem nn_ninf : FP.dIsNaN 18442240474082181120 = false := by decide +kernel
theorem nn_max : FP.dIsNaN 9218868437227405311 = false := by decide +kernel
theorem nn_min : FP.dIsNaN 18442240474082181119 = false := by decide +kernel
theorem kd_0 : KD 0 = 0 := by decide +kernel
theorem kd_n0 : KD 9223372036854775808 = 0 := by decide +kernel
theorem kd_1 : KD 4607182418800017408 = 4607182418800017408 := by decide +kernel
theorem kd_max : KD 9218868437227405311 = INFK - 1 := by decide +kernel
theorem kd_min : KD 18442240474082181119 = - INFK + 1 := by decide +kernel
/-- infinite -/
abbrev isInf (v : UInt64) : Prop := KD v = INFK ∨ KD v = -INFK
theorem isInf_val {v : UInt64} (h : FP.dIsNaN v = false) : pX4_isInfinite v = if isInf v then 1 else 0 := by
  have hb := kd_bound h
  unfold pX4_isInfinite pX4_isInfinite_b16
  simp only [fc_gt h nn_max, fc_ge h nn_min, kd_max, kd_min]
  unfold isInf
  by_cases h1 : INFK - 1 < KD v
  · rw [if_pos h1, if_pos (Or.inl (by omega))]
  · rw [if_neg h1]
    by_cases h2 : -INFK + 1 ≤ KD v
    · rw [if_pos h2, if_neg (by omega)]
    · rw [if_neg h2, if_pos (Or.inr (by omega))]
theorem isInf_0 {v : UInt64} (h : FP.dIsNaN v = false) : (pX4_isInfinite v = 0) = ¬ isInf v := by
  rw [isInf_val h]; apply propext
  split
  · exact ⟨fun z => absurd z (by decide), fun z => absurd (by assumption) z⟩
  · exact ⟨fun _ => by assumption, fun _ => rfl⟩
-- where an operation gives no number
theorem add_nan {a b : UInt64} (ha : FP.dIsNaN a = false) (hb : FP.dIsNaN b = false) : FP.dIsNaN (FP.dadd a b) = true ↔ isInf a ∧ KD a = -KD b := by
  refine (FP.Core.dadd_nan_iff a b).trans ?_
  constructor
  · rintro (h | h | ⟨s, h1, h2⟩)
    · exact absurd h (nn_ne ha)
    · exact absurd h (nn_ne hb)
    · rw [kd_inf] at h1 h2
      unfold isInf
      cases s <;> simp at h1 h2 <;> omega
  · rintro ⟨h1, h2⟩
    refine Or.inr (Or.inr ?_)
    rcases h1 with h1 | h1
    · exact ⟨false, (kd_inf _).mpr (by simpa using h1), (kd_inf _).mpr (by simp; omega)⟩
    · exact ⟨true, (kd_inf _).mpr (by simpa using h1), (kd_inf _).mpr (by simp; omega)⟩
theorem sub_nan {a b : UInt64} (ha : FP.dIsNaN a = false) (hb : FP.dIsNaN b = false) : FP.dIsNaN (FP.dsub a b) = true ↔ isInf a ∧ KD a = KD b := by
  refine (FP.Core.dsub_nan_iff a b).trans ?_
  constructor
  · rintro (h | h | ⟨s, h1, h2⟩)
    · exact absurd h (nn_ne ha)
    · exact absurd h (nn_ne hb)
    · rw [kd_inf] at h1 h2
      unfold isInf
      cases s <;> simp at h1 h2 <;> omega
  · rintro ⟨h1, h2⟩
    refine Or.inr (Or.inr ?_)
    rcases h1 with h1 | h1
    · exact ⟨false, (kd_inf _).mpr (by simpa using h1), (kd_inf _).mpr (by simp; omega)⟩
    · exact ⟨true, (kd_inf _).mpr (by simpa using h1), (kd_inf _).mpr (by simp; omega)⟩
theorem inf_ex {a : UInt64} : (∃ s, FP.Core.val64 a = .inf s) ↔ isInf a := by
  constructor
  · rintro ⟨s, h⟩
    rw [kd_inf] at h
    cases s
    · exact Or.inl (by simpa using h)
    · exact Or.inr (by simpa using h)
  · rintro (h | h)
    · exact ⟨false, (kd_inf _).mpr (by simpa using h)⟩
    · exact ⟨true, (kd_inf _).mpr (by simpa using h)⟩
theorem mul_nan {a b : UInt64} (ha : FP.dIsNaN a = false) (hb : FP.dIsNaN b = false) : FP.dIsNaN (FP.dmul a b) = true ↔ (KD a = 0 ∧ isInf b) ∨ (isInf a ∧ KD b = 0) := by
  refine (FP.Core.dmul_nan_iff a b).trans ?_
  rw [← kd_zero, ← kd_zero, ← inf_ex, ← inf_ex]
  constructor
  · rintro (h | h | ⟨s, h1, h2⟩ | ⟨s, h1, h2⟩)
    · exact absurd h (nn_ne ha)
    · exact absurd h (nn_ne hb)
    · exact Or.inr ⟨⟨s, h1⟩, h2⟩
    · exact Or.inl ⟨h1, s, h2⟩
  · rintro (⟨h1, s, h2⟩ | ⟨⟨s, h1⟩, h2⟩)
    · exact Or.inr (Or.inr (Or.inr ⟨s, h1, h2⟩))
    · exact Or.inr (Or.inr (Or.inl ⟨s, h1, h2⟩))
theorem div_nan {a b : UInt64} (ha : FP.dIsNaN a = false) (hb : FP.dIsNaN b = false) : FP.dIsNaN (FP.ddiv a b) = true ↔ (KD a = 0 ∧ KD b = 0) ∨ (isInf a ∧ isInf b) := by
  refine (FP.Core.ddiv_nan_iff a b).trans ?_
  rw [← kd_zero, ← kd_zero, ← inf_ex, ← inf_ex]
  constructor
  · rintro (h | h | ⟨s, t, h1, h2⟩ | h)
    · exact absurd h (nn_ne ha)
    · exact absurd h (nn_ne hb)
    · exact Or.inr ⟨⟨s, h1⟩, t, h2⟩
    · exact Or.inl h
  · rintro (h | ⟨⟨s, h1⟩, t, h2⟩)
    · exact Or.inr (Or.inr (Or.inr h))
    · exact Or.inr (Or.inr (Or.inl ⟨s, t, h1, h2⟩))
theorem rem_nan {a b : UInt64} (ha : FP.dIsNaN a = false) (hb : FP.dIsNaN b = false) : FP.dIsNaN (FP.drem a b) = true ↔ isInf a ∨ KD b = 0 := by
  refine (FP.Core.drem_nan_iff a b).trans ?_
  rw [← kd_zero, ← inf_ex]
  constructor
  · rintro (h | h | h | h)
    · exact absurd h (nn_ne ha)
    · exact absurd h (nn_ne hb)
    · exact Or.inl h
    · exact Or.inr h
  · rintro (h | h)
    · exact Or.inr (Or.inr (Or.inl h))
    · exact Or.inr (Or.inr (Or.inr h))
-- no number in, no number out
theorem nan_val {a : UInt64} (h : FP.dIsNaN a = true) : FP.Core.val64 a = .nan := (FP.Core.dIsNaN_iff a).mp h
theorem fadd_n {a b : UInt64} (h : FP.dIsNaN a = true ∨ FP.dIsNaN b = true) : fadd a b = NaNc := cnD_N ((FP.Core.dadd_nan_iff a b).mpr (h.elim (fun z => Or.inl (nan_val z)) fun z => Or.inr (Or.inl (nan_val z))))
theorem fsub_n {a b : UInt64} (h : FP.dIsNaN a = true ∨ FP.dIsNaN b = true) : fsub a b = NaNc := cnD_N ((FP.Core.dsub_nan_iff a b).mpr (h.elim (fun z => Or.inl (nan_val z)) fun z => Or.inr (Or.inl (nan_val z))))
theorem fmul_n {a b : UInt64} (h : FP.dIsNaN a = true ∨ FP.dIsNaN b = true) : fmul a b = NaNc := cnD_N ((FP.Core.dmul_nan_iff a b).mpr (h.elim (fun z => Or.inl (nan_val z)) fun z => Or.inr (Or.inl (nan_val z))))
theorem fdiv_n {a b : UInt64} (h : FP.dIsNaN a = true ∨ FP.dIsNaN b = true) : fdiv a b = NaNc := cnD_N ((FP.Core.ddiv_nan_iff a b).mpr (h.elim (fun z => Or.inl (nan_val z)) fun z => Or.inr (Or.inl (nan_val z))))
theorem frem_n {a b : UInt64} (h : FP.dIsNaN a = true ∨ FP.dIsNaN b = true) : frem a b = NaNc := cnD_N ((FP.Core.drem_nan_iff a b).mpr (h.elim (fun z => Or.inl (nan_val z)) fun z => Or.inr (Or.inl (nan_val z))))
theorem fmin_n {a b : UInt64} (h : FP.dIsNaN a = true ∨ FP.dIsNaN b = true) : fmin a b = NaNc := by
  refine cnD_N ?_
  unfold Free.Fl.Abs.minDOf
  cases ha : FP.dIsNaN a with
  | true => simp [ha]
  | false =>
    have hb : FP.dIsNaN b = true := h.resolve_left (by rw [ha]; decide)
    simp [hb]
theorem fmax_n {a b : UInt64} (h : FP.dIsNaN a = true ∨ FP.dIsNaN b = true) : fmax a b = NaNc := by
  refine cnD_N ?_
  unfold Free.Fl.Abs.maxDOf
  cases ha : FP.dIsNaN a with
  | true => simp [ha]
  | false =>
    have hb : FP.dIsNaN b = true := h.resolve_left (by rw [ha]; decide)
    simp [hb]
theorem sign_kd (a : UInt64) : ((a >>> 63 == 1) = true) ↔ 2 ^ 63 ≤ a.toNat := by
  have h := a.toNat_lt
  rw [beq_iff_eq, ← UInt64.toNat_inj, UInt64.toNat_shiftRight]
  have : (UInt64.toNat 63 % 64) = 63 := rfl
  rw [this, Nat.shiftRight_eq_div_pow]
  constructor
  · intro h1
    have h2 : a.toNat / 2 ^ 63 = 1 := h1
    omega
  · intro h1
    show a.toNat / 2 ^ 63 = 1
    omega
/-- minus 0: by its bits -/
theorem isMZ {v : UInt64} (h : FP.dIsNaN v = false) : pX4_isMinusZero v = if v = 9223372036854775808 then 1 else 0 := by
  unfold pX4_isMinusZero
  simp only [fc_eq h nn_0, kd_0]
  by_cases h0 : KD v = 0
  · rw [if_pos h0]
    have hv : v = 0 ∨ v = 9223372036854775808 := by
      have h1 := v.toNat_lt
      unfold KD FP.Core.dkey at h0
      by_cases h2 : 2 ^ 63 ≤ v.toNat
      · rw [if_pos h2] at h0
        right
        exact UInt64.toNat.inj (by show v.toNat = 9223372036854775808; omega)
      · rw [if_neg h2] at h0
        left
        exact UInt64.toNat.inj (by show v.toNat = 0; omega)
    rcases hv with rfl | rfl <;> decide +kernel
  · rw [if_neg h0, if_neg]
    rintro rfl
    exact h0 kd_n0
