/-! NUMBERS as whole multiples of the least one: times and by powers of 2, exactly -/
def DV (a : UInt64) (s : Bool) (z : Nat) : Prop := ∃ c q, FP.Core.val64 a = .fin s c q ∧ FP.Core.inUnits c q FP.Core.b64.qmin = z
def P2 (b : UInt64) (j : Nat) : Prop := FP.Core.val64 b = .fin false (2 ^ 52) ((j : Int) - 52)
theorem DV.nn {a : UInt64} {s : Bool} {z : Nat} (H : DV a s z) : FP.dIsNaN a = false := by
  obtain ⟨c, q, h, -⟩ := H
  exact nn_of (by rw [h]; exact fun x => by cases x)
theorem DV.zv {a : UInt64} {s : Bool} {z : Nat} (H : DV a s z) : FP.Core.zval FP.Core.b64 (FP.Core.val64 a) = FP.Core.signed s z := by
  obtain ⟨c, q, h, e⟩ := H
  rw [h]
  unfold FP.Core.zval FP.Core.sgn FP.Core.zmag
  simp only
  rw [e]
theorem DV.fit {a : UInt64} {s : Bool} {z : Nat} (H : DV a s z) : ∃ c q, FP.Core.val64 a = .fin s c q ∧ c < 2 ^ 53 ∧ -1074 ≤ q ∧ q ≤ 971 ∧ (q = -1074 ∨ 2 ^ 52 ≤ c) ∧ z = c * 2 ^ (q + 1074).toNat := by
  obtain ⟨c, q, h, e⟩ := H
  have hf := FP.Core.val64_fits a
  rw [h] at hf
  obtain ⟨f1, f2, f3, f4⟩ := hf
  have p53 : FP.Core.b64.p = 53 := rfl
  have qm : FP.Core.b64.qmin = -1074 := FP.Core.qmin_b64
  have qx : FP.Core.b64.qmax = 971 := by decide +kernel
  have tl : FP.Core.b64.tails = 2 ^ 52 := FP.Core.tails_b64
  rw [p53] at f1
  rw [qm] at f2 f4 e
  rw [qx] at f3
  rw [tl] at f4
  refine ⟨c, q, h, f1, f2, f3, f4, ?_⟩
  rw [← e]
  unfold FP.Core.inUnits
  rw [show q - -1074 = q + 1074 by omega]
theorem two_pos (n : Nat) : 0 < 2 ^ n := Nat.two_pow_pos n
theorem DV.mul {a b : UInt64} {s : Bool} {z j : Nat} (H : DV a s z) (P : P2 b j) (hj : j ≤ 2000) (hz : z < 2 ^ (2045 - j)) : DV (FP.dmul a b) s (z * 2 ^ j) := by
  obtain ⟨c, q, h, c1, q1, q2, q3, e⟩ := H.fit
  have hq : q + j ≤ 971 := by
    by_cases h0 : c = 0
    · subst h0
      have : q = -1074 := q3.resolve_right (by decide)
      omega
    · have : 2 ^ (q + 1074).toNat < 2 ^ (2045 - j) := Nat.lt_of_le_of_lt (by rw [e]; exact Nat.le_mul_of_pos_left _ (by omega)) hz
      have := (Nat.pow_lt_pow_iff_right (by decide : 1 < 2)).mp this
      omega
  have v : FP.Core.val64 (FP.dmul a b) = FP.Core.round FP.Core.b64 (.fin s c (q + j)) := by
    rw [show FP.dmul a b = FP.Core.dmul a b from rfl, FP.Core.val64_dmul, h, P]
    show FP.Core.roundRatio FP.Core.b64 (s != false) (c * 2 ^ 52) 1 (q + ((j : Int) - 52)) = FP.Core.roundRatio FP.Core.b64 s c 1 (q + j)
    rw [show (s != false) = s by cases s <;> rfl]
    refine FP.Core.roundRatio_congr (by decide) (by decide) ?_
    rw [show (q + ((j : Int) - 52) - (q + j)).toNat = 0 by omega, show (q + j - (q + ((j : Int) - 52))).toNat = 52 by omega]
    simp
  obtain ⟨c', q', r1, r2⟩ := FP.Core.round_exact FP.Core.good_b64 s (c := c) (q := q + j) c1 (by rw [FP.Core.qmin_b64]; omega) (by rw [show FP.Core.b64.qmax = 971 from by decide +kernel]; exact hq)
  refine ⟨c', q', v.trans r1, r2.trans ?_⟩
  unfold FP.Core.inUnits
  rw [FP.Core.qmin_b64, e, Nat.mul_assoc, ← Nat.pow_add]
  congr 2
  omega
theorem DV.div {a b : UInt64} {s : Bool} {z j : Nat} (H : DV a s z) (P : P2 b j) (hz : 2 ^ (53 + j) ≤ z) : ∃ w, DV (FP.ddiv a b) s w ∧ w * 2 ^ j = z := by
  obtain ⟨c, q, h, c1, q1, q2, q3, e⟩ := H.fit
  have hq : -1074 ≤ q - j := by
    have : 2 ^ (53 + j) < 2 ^ (53 + (q + 1074).toNat) := by
      refine Nat.lt_of_le_of_lt hz ?_
      rw [e, Nat.pow_add]
      exact Nat.mul_lt_mul_of_pos_right c1 (two_pos _)
    have := (Nat.pow_lt_pow_iff_right (by decide : 1 < 2)).mp this
    omega
  have v : FP.Core.val64 (FP.ddiv a b) = FP.Core.round FP.Core.b64 (.fin s c (q - j)) := by
    rw [show FP.ddiv a b = FP.Core.ddiv a b from rfl, FP.Core.val64_ddiv, h, P]
    unfold FP.Core.quotient
    simp only
    rw [if_neg (by decide), show (s != false) = s by cases s <;> rfl]
    refine FP.Core.roundRatio_congr (by decide) (by decide) ?_
    rw [show (q - ((j : Int) - 52) - (q - j)).toNat = 52 by omega, show (q - j - (q - ((j : Int) - 52))).toNat = 0 by omega]
    simp
  obtain ⟨c', q', r1, r2⟩ := FP.Core.round_exact FP.Core.good_b64 s (c := c) (q := q - j) c1 (by rw [FP.Core.qmin_b64]; exact hq) (by rw [show FP.Core.b64.qmax = 971 from by decide +kernel]; omega)
  refine ⟨_, ⟨c', q', v.trans r1, rfl⟩, ?_⟩
  rw [r2, e]
  unfold FP.Core.inUnits
  rw [FP.Core.qmin_b64, Nat.mul_assoc, ← Nat.pow_add]
  congr 2
  omega
theorem DV.fmul {a b : UInt64} {s : Bool} {z j : Nat} (H : DV a s z) (P : P2 b j) (hj : j ≤ 2000) (hz : z < 2 ^ (2045 - j)) : DV (fmul a b) s (z * 2 ^ j) := by
  have := H.mul P hj hz
  unfold _root_.Jvm.Pilot.CVectorPipesLaw_law_r6239_267267.fmul
  rw [cnD_nn this.nn]; exact this
theorem DV.fdiv {a b : UInt64} {s : Bool} {z j : Nat} (H : DV a s z) (P : P2 b j) (hz : 2 ^ (53 + j) ≤ z) : ∃ w, DV (fdiv a b) s w ∧ w * 2 ^ j = z := by
  obtain ⟨w, h1, h2⟩ := H.div P hz
  refine ⟨w, ?_, h2⟩
  unfold _root_.Jvm.Pilot.CVectorPipesLaw_law_r6239_267267.fdiv
  rw [cnD_nn h1.nn]; exact h1
theorem pw_P2 : ∀ k, k < 10 → P2 (pw k) (2 ^ k) := by unfold P2; decide +kernel
theorem P2_two : P2 4611686018427387904 1 := by unfold P2; decide +kernel
theorem DV_of {a : UInt64} (n : FP.dIsNaN a = false) (hi : ¬ isInf a) : ∃ s z, DV a s z ∧ z < 2 ^ 2098 := by
  cases h : FP.Core.val64 a with
  | nan => exact absurd h (nn_ne n)
  | inf s => exact absurd (inf_ex.mp ⟨s, h⟩) hi
  | fin s c q =>
    have H : DV a s (FP.Core.inUnits c q FP.Core.b64.qmin) := ⟨c, q, h, rfl⟩
    obtain ⟨c', q', -, c1, q1, q2, q3, e⟩ := H.fit
    refine ⟨s, _, H, ?_⟩
    rw [e]
    calc c' * 2 ^ (q' + 1074).toNat < 2 ^ 53 * 2 ^ (q' + 1074).toNat := Nat.mul_lt_mul_of_pos_right c1 (two_pos _)
      _ = 2 ^ (53 + (q' + 1074).toNat) := (Nat.pow_add ..).symm
      _ ≤ 2 ^ 2098 := Nat.pow_le_pow_right (by decide) (by omega)
/-- two numbers of which none is below 0, compared -/
theorem DV.le {a b : UInt64} {z w : Nat} (H : DV a false z) (H2 : DV b false w) : KD a ≤ KD b ↔ z ≤ w := by
  rw [kz_le H.nn H2.nn, H.zv, H2.zv]
  unfold FP.Core.signed
  simp
theorem DV.lt {a b : UInt64} {z w : Nat} (H : DV a false z) (H2 : DV b false w) : KD a < KD b ↔ z < w := by
  have := H2.le H
  omega
theorem DV.uni {a : UInt64} {s t : Bool} {z w : Nat} (H : DV a s z) (H2 : DV a t w) : s = t ∧ z = w := by
  obtain ⟨c, q, h, e⟩ := H
  obtain ⟨c', q', h', e'⟩ := H2
  rw [h] at h'
  cases h'
  exact ⟨rfl, e.symm.trans e'⟩
theorem DV.inj {a b : UInt64} {s : Bool} {z : Nat} (H : DV a s z) (H2 : DV b s z) (hz : 0 < z) : a = b := by
  have e := H.zv.trans H2.zv.symm
  have k1 := (kz_le H.nn H2.nn).mpr (Int.le_of_eq e)
  have k2 := (kz_le H2.nn H.nn).mpr (Int.le_of_eq e.symm)
  refine kd_inj (by omega) fun h0 => ?_
  obtain ⟨t, q, hq⟩ := kd_zero.mpr h0
  have : DV a t 0 := ⟨0, q, hq, by simp [FP.Core.inUnits]⟩
  have := (H.uni this).2
  omega
/-- cut to a long: the whole part -/
theorem DV.d2l {a : UInt64} {s : Bool} {z : Nat} (H : DV a s z) : (FP.d2l a).toInt = max (-2 ^ 63) (min (2 ^ 63 - 1) (FP.Core.signed s (z / FP.Core.one64))) := by
  have h := FP.Core.d2l_val (nn_ne H.nn)
  obtain ⟨c, q, hv, e⟩ := H
  rw [hv] at h
  unfold FP.Core.sgn FP.Core.zmag at h
  simp only at h
  rw [e] at h
  exact h
theorem DV_long {n : Int64} (h : n.toInt.natAbs ≤ 2 ^ 53) (s : Bool) (hs : n.toInt = FP.Core.signed s n.toInt.natAbs) (h0 : n ≠ 0 ∨ s = false) : DV (fl2d n) s (n.toInt.natAbs * FP.Core.one64) := by
  have hw := FP.Core.l2d_int h
  rw [fl2d_e]
  have e : FP.l2d n = FP.Core.l2d n := rfl
  rw [e]
  unfold FP.Core.DInt at hw
  cases hv : FP.Core.val64 (FP.Core.l2d n) with
  | nan => rw [hv] at hw; exact hw.elim
  | inf t => rw [hv] at hw; exact hw.elim
  | fin t c q =>
    rw [hv] at hw
    have hf := FP.Core.val64_fits (FP.Core.l2d n)
    rw [hv] at hf
    have q1 : -1074 ≤ q := by have := hf.2.1; rw [FP.Core.qmin_b64] at this; exact this
    have hz := FP.Core.whole_natAbs hw
    have ht : t = s := by
      by_cases hn : n.toInt = 0
      · have hn0 : n = 0 := Int64.toInt.inj hn
        have hs0 : s = false := h0.resolve_left (fun z => z hn0)
        subst hn0
        have : FP.Core.val64 (FP.Core.l2d 0) = .fin false 0 (-1074) := by decide +kernel
        rw [this] at hv
        cases hv
        exact hs0.symm
      · rw [FP.Core.whole_sign hw hn, hs]
        unfold FP.Core.signed
        cases s
        · simp
        · simp; omega
    refine ⟨c, q, by rw [← ht]; exact hv, ?_⟩
    unfold FP.Core.inUnits FP.Core.one64
    rw [FP.Core.qmin_b64]
    by_cases c0 : 0 ≤ q
    · rw [show (-q).toNat = 0 by omega, Nat.pow_zero, Nat.mul_one] at hz
      rw [← hz, Nat.mul_assoc, ← Nat.pow_add]
      congr 2
      omega
    · rw [show q.toNat = 0 by omega, Nat.pow_zero, Nat.mul_one] at hz
      rw [hz, Nat.mul_assoc, ← Nat.pow_add]
      congr 2
      omega
