/-! the reference tells a NUMBER -/
section TEL
variable {g : MT} {h : CT} {a : Nat} {p1 : UInt64} {k3 : Int32}
theorem sg_pos {s : Bool} {z : Nat} : FP.Core.signed s z = if s then -(z : Int) else z := rfl
theorem DV.le53 {v : UInt64} {s : Bool} {z : Nat} (D : DV v s z) : KD 4845873199050653696 ≤ KD v ↔ s = false ∧ 2 ^ 1127 ≤ z := by
  rw [kz_le DV_53.nn D.nn, DV_53.zv, D.zv, sg_pos, sg_pos]
  have : (0 : Int) < ((2 ^ 1127 : Nat) : Int) := by exact_mod_cast two_pos 1127
  generalize (2 ^ 1127 : Nat) = w at *
  cases s <;> simp <;> omega
theorem DV.gtm53 {v : UInt64} {s : Bool} {z : Nat} (D : DV v s z) : KD 14069245235905429504 < KD v ↔ s = false ∨ z < 2 ^ 1127 := by
  have := kz_le D.nn DV_m53.nn
  rw [DV_m53.zv, D.zv, sg_pos, sg_pos] at this
  have h2 : (0 : Int) < ((2 ^ 1127 : Nat) : Int) := by exact_mod_cast two_pos 1127
  rw [show KD 14069245235905429504 < KD v ↔ ¬ KD v ≤ KD 14069245235905429504 from ⟨Int.not_le.mpr, Int.not_le.mp⟩, this]
  generalize (2 ^ 1127 : Nat) = w at *
  cases s <;> simp <;> omega
theorem te27 : ∀ (d f z : Nat) (e : Int) (l4 : UInt64) (s : Bool), d < f → DV l4 s z → 0 < z → z < 2 ^ (1127 + d) →
    ∃ l4' z' j, pX13_tells_l27 g a p1 f k3 l4 (Int32.ofInt e) h = pX13_tells_l59 g a p1 FUEL k3 l4' (Int32.ofInt (e + (j : Nat))) h ∧ DV l4' s z' ∧ z' < 2 ^ 1127 ∧ 0 < z' ∧ z' * 2 ^ j = z := by
  intro d
  induction d with
  | zero =>
    intro f z e l4 s hf D h0 h1
    obtain ⟨f, rfl⟩ : ∃ f', f = f' + 1 := ⟨f - 1, by omega⟩
    refine ⟨l4, z, 0, ?_, D, h1, h0, by simp⟩
    show pX13_tells_b27 g a p1 (pX13_tells_l27 g a p1 f) k3 l4 _ h = _
    unfold pX13_tells_b27
    simp only [fc_ge D.nn DV_53.nn, fc_gt D.nn DV_m53.nn]
    rw [if_neg (fun x => Nat.not_le.mpr h1 (D.le53.mp x).2), if_pos (D.gtm53.mpr (Or.inr h1)), show e + ((0 : Nat) : Int) = e by omega]
  | succ d ih =>
    intro f z e l4 s hf D h0 h1
    by_cases c : z < 2 ^ 1127
    · obtain ⟨f, rfl⟩ : ∃ f', f = f' + 1 := ⟨f - 1, by omega⟩
      refine ⟨l4, z, 0, ?_, D, c, h0, by simp⟩
      show pX13_tells_b27 g a p1 (pX13_tells_l27 g a p1 f) k3 l4 _ h = _
      unfold pX13_tells_b27
      simp only [fc_ge D.nn DV_53.nn, fc_gt D.nn DV_m53.nn]
      rw [if_neg (fun x => Nat.not_le.mpr c (D.le53.mp x).2), if_pos (D.gtm53.mpr (Or.inr c)), show e + ((0 : Nat) : Int) = e by omega]
    · obtain ⟨f, rfl⟩ : ∃ f', f = f' + 1 := ⟨f - 1, by omega⟩
      have c' := Nat.not_lt.mp c
      obtain ⟨w, d1, d2⟩ := D.fdiv P2_two (Nat.le_trans (Nat.pow_le_pow_right (by decide) (by omega)) c')
      have hw : w < 2 ^ (1127 + d) := by
        rw [show 1127 + (d + 1) = 1127 + d + 1 by omega, Nat.pow_succ] at h1
        omega
      obtain ⟨l4', z', j, r1, r2, r3, r4, r5⟩ := ih f w (e + 1) _ s (by omega) d1 (by have := two_pos 1127; omega) hw
      refine ⟨l4', z', j + 1, ?_, r2, r3, r4, by rw [Nat.pow_succ, ← Nat.mul_assoc, r5]; omega⟩
      have key : pX13_tells_b45 g a p1 (pX13_tells_l27 g a p1 f) k3 l4 (Int32.ofInt e) h = pX13_tells_l59 g a p1 FUEL k3 l4' (Int32.ofInt (e + ((j + 1 : Nat) : Int))) h := by
        unfold pX13_tells_b45
        simp only [w_lt]
        rw [show Int32.ofInt e + 1 = Int32.ofInt (e + 1) from (Int32.ofInt_add e 1).symm, r1, show e + 1 + (j : Int) = e + ((j + 1 : Nat) : Int) by omega]
      show pX13_tells_b27 g a p1 (pX13_tells_l27 g a p1 f) k3 l4 _ h = _
      unfold pX13_tells_b27
      simp only [fc_ge D.nn DV_53.nn, fc_gt D.nn DV_m53.nn]
      cases s with
      | false => rw [if_pos (D.le53.mpr ⟨rfl, c'⟩)]; exact key
      | true =>
        rw [if_neg (fun x => by have := (D.le53.mp x).1; cases this), if_neg (fun x => (D.gtm53.mp x).elim (fun y => by cases y) fun y => by omega)]
        exact key
theorem te88 (s : Bool) : ∀ (d f n : Nat) (e : Int) (l : Int64), d < f → d ≤ 62 → 0 < n → n < 2 ^ d → l.toInt = FP.Core.signed s n →
    ∃ l' n' j, pX13_tells_l88 g a p1 f k3 (Int32.ofInt e) l h = some (k3, sI (sL h a 2 l') a 3 (Int32.ofInt (e + (j : Nat)))) ∧ l'.toInt = FP.Core.signed s n' ∧ n' * 2 ^ j = n ∧ n' % 2 = 1 := by
  intro d
  induction d with
  | zero => intro f n e l _ _ h1 h2; omega
  | succ d ih =>
    intro f n e l hf hd h1 h2 hl
    obtain ⟨f, rfl⟩ : ∃ f', f = f' + 1 := ⟨f - 1, by omega⟩
    show ∃ l' n' j, pX13_tells_b88 g a p1 (pX13_tells_l88 g a p1 f) k3 (Int32.ofInt e) l h = _ ∧ _
    unfold pX13_tells_b88
    simp only [lrest hl (Nat.lt_of_lt_of_le h2 (Nat.pow_le_pow_right (by decide) (by omega)))]
    by_cases c : n % 2 = 0
    · rw [if_pos c]
      obtain ⟨l', n', j, r1, r2, r3, r4⟩ := ih f (n / 2) (e + 1) (l / 2) (by omega) (by omega) (by omega) (by rw [Nat.pow_succ] at h2; omega) (lhs hl)
      refine ⟨l', n', j + 1, ?_, r2, by rw [Nat.pow_succ, ← Nat.mul_assoc, r3]; omega, r4⟩
      simp only [w_lt]
      rw [show Int32.ofInt e + 1 = Int32.ofInt (e + 1) from (Int32.ofInt_add e 1).symm, r1, show e + 1 + (j : Int) = e + ((j + 1 : Nat) : Int) by omega]
    · rw [if_neg c]
      refine ⟨l, n, 0, ?_, hl, by simp, by omega⟩
      simp only [w_lt]
      rw [show e + ((0 : Nat) : Int) = e by omega]
theorem DV.long {v : UInt64} {s : Bool} {z : Nat} (D : DV v s z) (hz : z < 2 ^ 1127) : (FP.d2l v).toInt = FP.Core.signed s (z / FP.Core.one64) ∧ z / FP.Core.one64 < 2 ^ 53 := by
  have h1 : z / FP.Core.one64 < 2 ^ 53 := by
    rw [Nat.div_lt_iff_lt_mul (show 0 < FP.Core.one64 from two_pos _)]
    unfold FP.Core.one64; rw [← Nat.pow_add]; exact hz
  refine ⟨?_, h1⟩
  rw [D.d2l, sg_pos]
  generalize z / FP.Core.one64 = m at *
  cases s
  · simp only [Bool.false_eq_true, if_false]; omega
  · simp only [if_true]; omega
theorem DV.whole {v : UInt64} {s : Bool} {z : Nat} (D : DV v s z) (h0 : 0 < z) (hz : z < 2 ^ 1127) : (Op.cmpValue (FP.dcmp (fl2d (FP.d2l v)) v) .l = 0) = (z / FP.Core.one64 * FP.Core.one64 = z) := by
  obtain ⟨h1, h2⟩ := D.long hz
  have ha : (FP.d2l v).toInt.natAbs = z / FP.Core.one64 := by
    rw [h1, sg_pos]
    generalize z / FP.Core.one64 = m at *
    cases s
    · simp only [Bool.false_eq_true, if_false]; omega
    · simp only [if_true]; omega
  rw [fc_eq (fl2d_nn _) D.nn]
  apply propext
  by_cases c : z / FP.Core.one64 = 0
  · have e0 : FP.d2l v = 0 := Int64.toInt_inj.mp (by rw [h1, c, sg_pos]; cases s <;> rfl)
    rw [e0, show fl2d 0 = 0 from by rw [fl2d_e]; decide +kernel, kd_0, c, Nat.zero_mul]
    refine ⟨fun x => ?_, fun x => by omega⟩
    obtain ⟨t, q, hq⟩ := kd_zero.mpr x.symm
    have : DV v t 0 := ⟨0, q, hq, by simp [FP.Core.inUnits]⟩
    exact (this.uni D).2
  · have n0 : FP.d2l v ≠ 0 := fun x => by
      rw [x, sg_pos] at h1
      have : (0 : Int64).toInt = 0 := rfl
      cases s <;> simp at h1 <;> omega
    have W := DV_long (n := FP.d2l v) (by rw [ha]; omega) s (by rw [ha]; exact h1) (Or.inl n0)
    rw [ha] at W
    constructor
    · intro x
      have k1 := (kz_le W.nn D.nn).mp (Int.le_of_eq x)
      have k2 := (kz_le D.nn W.nn).mp (Int.le_of_eq x.symm)
      rw [W.zv, D.zv, sg_pos, sg_pos] at k1 k2
      generalize z / FP.Core.one64 * FP.Core.one64 = y at *
      cases s
      · simp only [Bool.false_eq_true, if_false] at k1 k2; omega
      · simp only [if_true] at k1 k2; omega
    · intro x
      rw [x] at W
      rw [W.inj D h0]
theorem ofI_dec (e : Int) : Int32.ofInt e + -1 = Int32.ofInt (e - 1) := by
  have h : Int32.ofInt (-1) = -1 := by decide
  rw [Int.sub_eq_add_neg, Int32.ofInt_add, h]
theorem te59 : ∀ (d f z : Nat) (e : Int) (l4 : UInt64) (s : Bool), d < f → DV l4 s z → 0 < z → z < 2 ^ 1127 → 2 ^ 1074 ∣ z * 2 ^ d →
    ∃ l' n' i j, pX13_tells_l59 g a p1 f k3 l4 (Int32.ofInt e) h = some (k3, sI (sL h a 2 l') a 3 (Int32.ofInt (e - (i : Nat) + (j : Nat)))) ∧ l'.toInt = FP.Core.signed s n' ∧ n' * 2 ^ j * 2 ^ 1074 = z * 2 ^ i ∧ n' % 2 = 1 := by
  intro d
  induction d with
  | zero =>
    intro f z e l4 s hf D h0 h1 hd
    obtain ⟨f, rfl⟩ : ∃ f', f = f' + 1 := ⟨f - 1, by omega⟩
    rw [Nat.pow_zero, Nat.mul_one] at hd
    have c : z / FP.Core.one64 * FP.Core.one64 = z := Nat.div_mul_cancel hd
    obtain ⟨q1, q2⟩ := D.long h1
    obtain ⟨l', n', j, r1, r2, r3, r4⟩ := te88 (g := g) (h := h) (a := a) (p1 := p1) (k3 := k3) s 53 FUEL (z / FP.Core.one64) e (FP.d2l l4) (by decide) (by decide) (Nat.pos_of_ne_zero fun x => by rw [x] at c; omega) q2 q1
    refine ⟨l', n', 0, j, ?_, r2, by rw [r3, Nat.pow_zero, Nat.mul_one, show (2 ^ 1074 : Nat) = FP.Core.one64 from rfl]; exact c, r4⟩
    show pX13_tells_b59 g a p1 (pX13_tells_l59 g a p1 f) k3 l4 _ h = _
    unfold pX13_tells_b59
    simp only [D.whole h0 h1]
    rw [if_pos c, w_lt, r1, show e - ((0 : Nat) : Int) + (j : Int) = e + (j : Int) by omega]
  | succ d ih =>
    intro f z e l4 s hf D h0 h1 hd
    obtain ⟨f, rfl⟩ : ∃ f', f = f' + 1 := ⟨f - 1, by omega⟩
    by_cases c : z / FP.Core.one64 * FP.Core.one64 = z
    · obtain ⟨q1, q2⟩ := D.long h1
      obtain ⟨l', n', j, r1, r2, r3, r4⟩ := te88 (g := g) (h := h) (a := a) (p1 := p1) (k3 := k3) s 53 FUEL (z / FP.Core.one64) e (FP.d2l l4) (by decide) (by decide) (Nat.pos_of_ne_zero fun x => by rw [x] at c; omega) q2 q1
      refine ⟨l', n', 0, j, ?_, r2, by rw [r3, Nat.pow_zero, Nat.mul_one, show (2 ^ 1074 : Nat) = FP.Core.one64 from rfl]; exact c, r4⟩
      show pX13_tells_b59 g a p1 (pX13_tells_l59 g a p1 f) k3 l4 _ h = _
      unfold pX13_tells_b59
      simp only [D.whole h0 h1]
      rw [if_pos c, w_lt, r1, show e - ((0 : Nat) : Int) + (j : Int) = e + (j : Int) by omega]
    · obtain ⟨m, q, -, c1, q1, q2, q3, ez⟩ := D.fit
      have hk : (q + 1074).toNat < 1074 := by
        refine Nat.not_le.mp fun x => c ?_
        refine Nat.div_mul_cancel ?_
        rw [ez]
        exact Nat.dvd_trans (Nat.pow_dvd_pow 2 x) (Nat.dvd_mul_left _ _)
      have D' := D.fmul P2_two (by decide) (Nat.lt_of_lt_of_le h1 (Nat.pow_le_pow_right (by decide) (by decide)))
      have hz2 : z * 2 ^ 1 < 2 ^ 1127 := by
        rw [ez, Nat.mul_assoc, ← Nat.pow_add]
        calc m * 2 ^ ((q + 1074).toNat + 1) < 2 ^ 53 * 2 ^ ((q + 1074).toNat + 1) := Nat.mul_lt_mul_of_pos_right c1 (two_pos _)
          _ = 2 ^ (53 + ((q + 1074).toNat + 1)) := (Nat.pow_add ..).symm
          _ ≤ 2 ^ 1127 := Nat.pow_le_pow_right (by decide) (by omega)
      obtain ⟨l', n', i, j, r1, r2, r3, r4⟩ := ih f (z * 2 ^ 1) (e - 1) _ s (by omega) D' (by omega) hz2 (by rw [Nat.mul_assoc, ← Nat.pow_add, Nat.add_comm 1 d]; exact hd)
      refine ⟨l', n', i + 1, j, ?_, r2, by rw [r3, Nat.mul_assoc, ← Nat.pow_add, Nat.add_comm 1 i], r4⟩
      show pX13_tells_b59 g a p1 (pX13_tells_l59 g a p1 f) k3 l4 _ h = _
      unfold pX13_tells_b59
      simp only [D.whole h0 h1]
      rw [if_neg c, w_lt, w_lt, ofI_dec, r1, show e - 1 - (i : Int) + (j : Int) = e - ((i + 1 : Nat) : Int) + (j : Int) by omega]
/-- the reference: a number that is none of the five strange ones -/
theorem tells_0 (T : gT g a = 12) (hk : pX13_kindOf p1 = 0) {s : Bool} {z : Nat} (D : DV p1 s z) (h0 : 0 < z) (hz : z < 2 ^ 2098) :
    ∃ M E n e, Odd1 z n e ∧ M.toInt = FP.Core.signed s n ∧ E = Int32.ofInt e ∧ pX13_tells g h a p1 = some (0, sI (sL (sI (sL h a 2 0) a 3 0) a 2 M) a 3 E) := by
  obtain ⟨x, z1, j, r1, r2, r3, r4, r5⟩ := te27 (g := g) (h := sI (sL h a 2 0) a 3 0) (a := a) (p1 := p1) (k3 := 0) 971 FUEL z 0 p1 s (by decide) D h0 (Nat.lt_of_lt_of_le hz (Nat.pow_le_pow_right (by decide) (by decide)))
  obtain ⟨l', n', i, k, s1, s2, s3, s4⟩ := te59 (g := g) (h := sI (sL h a 2 0) a 3 0) (a := a) (p1 := p1) (k3 := 0) 1074 FUEL z1 (0 + (j : Nat)) x s (by decide) r2 r4 r3 (Nat.dvd_mul_left _ _)
  refine ⟨l', Int32.ofInt (0 + (j : Nat) - (i : Nat) + (k : Nat)), n', 0 + (j : Nat) - (i : Nat) + (k : Nat), ⟨s4, i, j + k + 1074, ?_, by omega⟩, s2, rfl, ?_⟩
  · rw [← r5, show n' * 2 ^ (j + k + 1074) = (n' * 2 ^ k * 2 ^ 1074) * 2 ^ j from by
      rw [Nat.pow_add, Nat.pow_add]
      generalize (2 : Nat) ^ 1074 = A
      generalize (2 : Nat) ^ j = A2
      generalize (2 : Nat) ^ k = A3
      rw [Nat.mul_assoc n' A3, Nat.mul_assoc n', Nat.mul_comm A2 A3, Nat.mul_assoc A3 A2, Nat.mul_comm A2 A, ← Nat.mul_assoc A3], s3]
    rw [Nat.mul_assoc, Nat.mul_assoc, Nat.mul_comm (2 ^ i)]
  · unfold pX13_tells
    simp only [w_tg T, w_lt, hk]
    rw [if_pos (by decide)]
    rw [show (0 : Int32) = Int32.ofInt 0 from rfl] at r1
    rw [show FUEL = FUEL from rfl]
    exact r1.trans s1
end TEL
