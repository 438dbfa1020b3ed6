/-! a NUMBER told: halving; the class's tellKind, the reference's tells: the same odd number, the same power -/
theorem lpar (x : Int64) : (x &&& 1 = 0) ↔ x.toInt % 2 = 0 := by
  have h1 : (x &&& 1).toBitVec.toNat = x.toBitVec.toNat % 2 := by
    rw [Int64.toBitVec_and]
    rw [show (1 : Int64).toBitVec = 1#64 from rfl, BitVec.toNat_and]
    exact Nat.and_one_is_mod _
  have h2 : x.toInt % 2 = (x.toBitVec.toNat : Int) % 2 := by
    rw [← Int64.toInt_toBitVec, BitVec.toInt_eq_toNat_cond]
    split <;> omega
  constructor
  · intro h
    rw [h] at h1
    rw [show (0 : Int64).toBitVec.toNat = 0 from rfl] at h1
    omega
  · intro h
    refine Int64.toBitVec_inj.mp (BitVec.eq_of_toNat_eq ?_)
    rw [h1, show (0 : Int64).toBitVec.toNat = 0 from rfl]
    omega
theorem lhalf (x : Int64) : (x / 2).toInt = x.toInt.tdiv 2 := by
  rw [Int64.toInt_div_of_ne_right x 2 (by decide)]
  rfl
theorem td2 (n : Nat) : (n : Int).tdiv 2 = ((n / 2 : Nat) : Int) := rfl
theorem lhs {x : Int64} {s : Bool} {n : Nat} (h : x.toInt = FP.Core.signed s n) : (x / 2).toInt = FP.Core.signed s (n / 2) := by
  rw [lhalf, h]
  unfold FP.Core.signed
  cases s
  · simp only [Bool.false_eq_true, if_false]; rw [td2]
  · simp only [if_true]; rw [Int.neg_tdiv, td2]
theorem leven {x : Int64} {s : Bool} {n : Nat} (h : x.toInt = FP.Core.signed s n) : (x.toInt % 2 = 0) ↔ n % 2 = 0 := by
  rw [h]
  unfold FP.Core.signed
  cases s
  · simp only [Bool.false_eq_true, if_false]; omega
  · simp only [if_true]; omega
theorem lrest {x : Int64} {s : Bool} {n : Nat} (h : x.toInt = FP.Core.signed s n) (hn : n < 2 ^ 62) : (lg_cmp (x - x / 2 * 2) 0 = 0) = (n % 2 = 0) := by
  rw [lgc_eq]
  apply propext
  have e2 := lhs h
  have eq1 : (x / 2 * 2).toInt = 2 * FP.Core.signed s (n / 2) := by
    rw [Int64.toInt_mul, e2, show (2 : Int64).toInt = 2 from rfl, Int.bmod_eq_of_le]
    · omega
    · unfold FP.Core.signed; cases s <;> simp <;> omega
    · unfold FP.Core.signed; cases s <;> simp <;> omega
  have h0 : (x - x / 2 * 2 = 0) ↔ x = x / 2 * 2 := ⟨fun z => by
    have := Int64.sub_add_cancel x (x / 2 * 2)
    rw [z, Int64.zero_add] at this
    exact this.symm, fun z => by rw [← z]; exact Int64.sub_self x⟩
  rw [h0, ← Int64.toInt_inj, h, eq1]
  unfold FP.Core.signed
  cases s
  · simp only [Bool.false_eq_true, if_false]; omega
  · simp only [if_true]; omega
theorem sL_sL (h : CT) (a k : Nat) (x y : Int64) : sL (sL h a k x) a k y = sL h a k y := by
  have s1 : ∀ (f : Nat → Nat → Int64) (a k : Nat) (x y : Int64), up2 (up2 f a k x) a k y = up2 f a k y := fun f a k x y => by funext b j; unfold up2; split <;> rfl
  show (h.1, up2 (up2 h.2.1 a k x) a k y, h.2.2.1, h.2.2.2) = (h.1, up2 h.2.1 a k y, h.2.2.1, h.2.2.2)
  rw [s1]
section TLK
variable {g : MT} {h : CT} {a P b : Nat} {p1 : UInt64}
/-- the class's halving -/
theorem tk29 (T : gT g a = 1) (s : Bool) (h0 : CT) (l2 : Int32) : ∀ (d t f n : Nat) (e : Int) (l : Int64), t + d = 64 → d < f → 0 < n → n < 2 ^ d → l.toInt = FP.Core.signed s n →
    ∃ l' n' j, pX1_tellKind_l29 g a b f l2 (nI t) (sL (sI h0 a 4 (Int32.ofInt e)) a 3 l) = some (l2, sI (sL (sL (sI h0 a 4 (Int32.ofInt (e + (j : Nat)))) a 3 l') a 0 l') a 1 (Int32.ofInt (e + (j : Nat)))) ∧ l'.toInt = FP.Core.signed s n' ∧ n' * 2 ^ j = n ∧ n' % 2 = 1 := by
  intro d
  induction d with
  | zero => intro t f n e l _ _ h1 h2; omega
  | succ d ih =>
    intro t f n e l ht hf h1 h2 hl
    obtain ⟨f, rfl⟩ : ∃ f', f = f' + 1 := ⟨f - 1, by omega⟩
    have c64 : ¬ 64 ≤ nI t := by
      have : ∀ t, t < 64 → ¬ (64 : Int32) ≤ nI t := by decide +kernel
      exact this t (by omega)
    show ∃ l' n' j, pX1_tellKind_b29 g a b (pX1_tellKind_l29 g a b f) l2 (nI t) _ = _ ∧ _
    unfold pX1_tellKind_b29 pX1_tellKind_b74
    rw [if_neg c64]
    have eL : hL (sL (sI h0 a 4 (Int32.ofInt e)) a 3 l) a 3 = l := hL_s _ _ _ _
    have eI : hI (sL (sI h0 a 4 (Int32.ofInt e)) a 3 l) a 4 = Int32.ofInt e := hI_s _ _ _ _
    have cnd : (lg_cmp (l &&& 1) 0 = 0) = (n % 2 = 0) := by
      rw [lgc_eq]; apply propext; rw [lpar]; exact leven hl
    simp only [eL, cnd]
    by_cases c : n % 2 = 0
    · rw [if_pos c]
      have e3 : sI (sL (sL (sI h0 a 4 (Int32.ofInt e)) a 3 l) a 3 (l / 2)) a 4 (Int32.ofInt e + 1) = sL (sI h0 a 4 (Int32.ofInt (e + 1))) a 3 (l / 2) := by
        rw [sL_sL]
        show sL (sI (sI h0 a 4 (Int32.ofInt e)) a 4 (Int32.ofInt e + 1)) a 3 (l / 2) = _
        rw [sI_sI, show Int32.ofInt e + 1 = Int32.ofInt (e + 1) from (Int32.ofInt_add e 1).symm]
      obtain ⟨l', n', j, r1, r2, r3, r4⟩ := ih (t + 1) f (n / 2) (e + 1) (l / 2) (by omega) (by omega) (by omega) (by rw [Nat.pow_succ] at h2; omega) (lhs hl)
      refine ⟨l', n', j + 1, ?_, r2, by rw [Nat.pow_succ, ← Nat.mul_assoc, r3]; omega, r4⟩
      have et : nI t + 1 = nI (t + 1) := nI_add t 1
      have eI2 : ∀ y, hI (sL (sL (sI h0 a 4 (Int32.ofInt e)) a 3 l) a 3 y) a 4 = Int32.ofInt e := fun y => hI_s _ _ _ _
      simp only [w_lt, eI2, et]
      rw [e3, r1, show e + 1 + (j : Int) = e + ((j + 1 : Nat) : Int) by omega]
    · rw [if_neg c]
      refine ⟨l, n, 0, ?_, hl, by simp, by omega⟩
      simp only [w_lt, eL]
      have eI2 : ∀ y, hI (sL (sL (sI h0 a 4 (Int32.ofInt e)) a 3 l) a 0 y) a 4 = Int32.ofInt e := fun y => hI_s _ _ _ _
      rw [eI2, show e + ((0 : Nat) : Int) = e by omega]
/-- the class: a number that is none of the five strange ones -/
theorem tellKind_0 (Q : SpH g h a P) (Tb : gT g b = 4) (hab : a ≠ b) (ha : hI h b 1 = 0) {s : Bool} {z : Nat} (D : DV (hD h b 0) s z) (h0 : 0 < z) (hz : z < 2 ^ 2098) (hk : pX4_kind g h b = some 0) :
    ∃ M E n e x y, Odd1 z n e ∧ M.toInt = FP.Core.signed s n ∧ E = Int32.ofInt e ∧ pX1_tellKind g h a b = some (0, sI (sL (sL (sI (sI (sL h a 0 0) a 1 0) a 4 x) a 3 y) a 0 M) a 1 E) := by
  have Q' : SpH g (sI (sL h a 0 0) a 1 0) a P := Q
  have D' : DV (hD (sI (sL h a 0 0) a 1 0) b 0) s z := D
  obtain ⟨e, n, c, hn, c1, c0, ⟨i, j, q1, q2⟩, l, hl, hs⟩ := split_spec Q' D' h0 hz
  subst hn
  obtain ⟨l', n', k, r1, r2, r3, r4⟩ := tk29 (g := g) (b := b) Q.1 s (sI (sL h a 0 0) a 1 0) 0 64 0 FUEL c e l rfl (by decide) c0 (Nat.lt_of_lt_of_le c1 (by decide)) hl
  refine ⟨l', Int32.ofInt (e + (k : Nat)), n', e + (k : Nat), Int32.ofInt (e + (k : Nat)), l', ⟨r4, i, j + k, ?_, by omega⟩, r2, rfl, ?_⟩
  · rw [q1, ← r3, Nat.pow_add, Nat.mul_assoc, Nat.mul_comm (2 ^ k)]
  · unfold pX1_tellKind
    simp only [w_tg Q.1, w_tg Tb, hk, w_bd, w_lt, if_true]
    rw [hs, w_bd, show (0 : Int32) = nI 0 from rfl]
    exact r1
end TLK
