/-! how many bits are set -/
section CNT
def cntN (m : Nat) : Nat → Nat
  | 0 => 0
  | n + 1 => cntN m n + m / 2 ^ n % 2
def popN (x : Nat) : Nat :=
  let x1 := x - (x / 2 &&& 1431655765)
  let x2 := (x1 &&& 858993459) + (x1 / 4 &&& 858993459)
  let x3 := (x2 + x2 / 16) &&& 252645135
  let x4 := x3 + x3 / 256
  let x5 := x4 + x4 / 65536
  x5 &&& 63
theorem land_split {a b c d : Nat} (hb : b < 256) (hd : d < 256) : ((256 * a + b) &&& (256 * c + d)) = 256 * (a &&& c) + (b &&& d) := by
  have hbd : (b &&& d) < 2 ^ 8 := Nat.lt_of_le_of_lt Nat.and_le_left hb
  apply Nat.eq_of_testBit_eq
  intro i
  rw [Nat.testBit_and, show (256 : Nat) = 2 ^ 8 from rfl, Nat.testBit_two_pow_mul_add a (show b < 2 ^ 8 from hb), Nat.testBit_two_pow_mul_add c (show d < 2 ^ 8 from hd), Nat.testBit_two_pow_mul_add (a &&& c) hbd]
  split
  · rw [Nat.testBit_and]
  · rw [Nat.testBit_and]
def pb1 (a : Nat) : Nat := a - (a / 2 &&& 85)
def pb2 (a : Nat) : Nat := (pb1 a &&& 51) + (pb1 a / 4 &&& 51)
def pb3 (a : Nat) : Nat := (pb2 a + pb2 a / 16) &&& 15
set_option maxRecDepth 100000 in
theorem pb_t : ∀ a, a < 256 → pb1 a < 256 ∧ (a / 2 &&& 85) ≤ a ∧ pb2 a ≤ 68 ∧ pb2 a % 16 ≤ 4 ∧ pb3 a ≤ 8 ∧ pb3 a = cntN a 8 := by decide +kernel
set_option maxRecDepth 100000 in
theorem pb_5 : ∀ a, a < 256 → (a / 2 &&& 5592405) = (a / 2 &&& 85) ∧ (a &&& 3355443) = (a &&& 51) ∧ (a / 4 &&& 3355443) = (a / 4 &&& 51) := by decide +kernel
set_option maxRecDepth 100000 in
theorem pb_6 : ∀ r, r < 2 → ∀ b, b < 256 → ((128 * r + b / 2) &&& 85) = (b / 2 &&& 85) := by decide +kernel
set_option maxRecDepth 100000 in
theorem pb_7 : ∀ r, r < 4 → ∀ b, b < 256 → ((64 * r + b / 4) &&& 51) = (b / 4 &&& 51) := by decide +kernel
theorem pop_cnt {x : Nat} (hx : x < 65536) : popN x = cntN x 16 := by
  obtain ⟨a, b, ha, hb, rfl⟩ : ∃ a b, a < 256 ∧ b < 256 ∧ x = 256 * a + b := ⟨x / 256, x % 256, by omega, by omega, by omega⟩
  obtain ⟨ta1, ta2, ta3, ta4, ta5, ta6⟩ := pb_t a ha
  obtain ⟨tb1, tb2, tb3, tb4, tb5, tb6⟩ := pb_t b hb
  obtain ⟨ua1, -, -⟩ := pb_5 a ha
  obtain ⟨-, ua2, ua3⟩ := pb_5 (pb1 a) ta1
  -- the first step
  have s1 : (256 * a + b) - ((256 * a + b) / 2 &&& 1431655765) = 256 * pb1 a + pb1 b := by
    have e : (256 * a + b) / 2 = 256 * (a / 2) + (128 * (a % 2) + b / 2) := by omega
    rw [e, show (1431655765 : Nat) = 256 * 5592405 + 85 from rfl, land_split (by omega) (by decide), ua1, pb_6 (a % 2) (by omega) b hb]
    unfold pb1
    omega
  have s2 : ((256 * pb1 a + pb1 b) &&& 858993459) + ((256 * pb1 a + pb1 b) / 4 &&& 858993459) = 256 * pb2 a + pb2 b := by
    have e : (256 * pb1 a + pb1 b) / 4 = 256 * (pb1 a / 4) + (64 * (pb1 a % 4) + pb1 b / 4) := by omega
    rw [e, show (858993459 : Nat) = 256 * 3355443 + 51 from rfl, land_split tb1 (by decide), land_split (by omega) (by decide), ua2, ua3, pb_7 (pb1 a % 4) (by omega) (pb1 b) tb1]
    unfold pb2
    omega
  have s3 : (((256 * pb2 a + pb2 b) + (256 * pb2 a + pb2 b) / 16) &&& 252645135) = 256 * pb3 a + pb3 b := by
    have e : (256 * pb2 a + pb2 b) + (256 * pb2 a + pb2 b) / 16 = 256 * (pb2 a + pb2 a / 16) + (16 * (pb2 a % 16) + (pb2 b + pb2 b / 16)) := by omega
    have m15 : ∀ n : Nat, n &&& 15 = n % 16 := fun n => Nat.and_two_pow_sub_one_eq_mod n 4
    have hA : pb2 a + pb2 a / 16 < 256 := by omega
    have hl : ((pb2 a + pb2 a / 16) &&& 986895) = ((pb2 a + pb2 a / 16) &&& 15) := by
      have := land_split (a := 0) (b := pb2 a + pb2 a / 16) (c := 3855) (d := 15) hA (by decide)
      rw [Nat.mul_zero, Nat.zero_add, Nat.zero_and, Nat.mul_zero, Nat.zero_add] at this
      exact this
    rw [e, show (252645135 : Nat) = 256 * 986895 + 15 from rfl, land_split (by omega) (by decide), hl, m15 (16 * (pb2 a % 16) + (pb2 b + pb2 b / 16)), show (16 * (pb2 a % 16) + (pb2 b + pb2 b / 16)) % 16 = (pb2 b + pb2 b / 16) % 16 by omega, ← m15]
    rfl
  have m63 : ∀ n : Nat, n &&& 63 = n % 64 := fun n => Nat.and_two_pow_sub_one_eq_mod n 6
  have e : popN (256 * a + b) = pb3 a + pb3 b := by
    unfold popN
    simp only []
    rw [s1, s2, s3, m63]
    clear s1 s2 s3 ua1 ua2 ua3
    generalize pb3 a = A at *
    generalize pb3 b = C at *
    rw [show (256 * A + C) / 256 = A by omega, show (256 * A + C + A) / 65536 = 0 by omega]
    omega
  have c8 : ∀ k, k ≤ 8 → cntN (256 * a + b) (8 + k) = cntN b 8 + cntN a k := by
    have low : ∀ k, k ≤ 8 → cntN (256 * a + b) k = cntN b k := by
      intro k
      induction k with
      | zero => intro _; rfl
      | succ k ih =>
        intro hk
        have hp : 256 = 2 ^ k * 2 ^ (8 - k) := by rw [← Nat.pow_add, show k + (8 - k) = 8 by omega]
        have h2 : 2 ^ (8 - k) = 2 * 2 ^ (7 - k) := by rw [show 8 - k = 7 - k + 1 by omega, Nat.pow_succ, Nat.mul_comm]
        have hd : (256 * a + b) / 2 ^ k = 2 ^ (8 - k) * a + b / 2 ^ k := by
          rw [hp, Nat.mul_assoc, Nat.mul_add_div (Nat.two_pow_pos k)]
        rw [cntN, cntN, ih (by omega), hd, h2, Nat.mul_assoc, Nat.mul_add_mod]
    intro k
    induction k with
    | zero => intro _; rw [Nat.add_zero, low 8 (Nat.le_refl 8)]; rfl
    | succ k ih =>
      intro hk
      have hd : (256 * a + b) / 2 ^ (8 + k) = a / 2 ^ k := by
        rw [Nat.pow_add, ← Nat.div_div_eq_div_mul, show (2 : Nat) ^ 8 = 256 from rfl, show (256 * a + b) / 256 = a by omega]
      have e1 : cntN (256 * a + b) (8 + (k + 1)) = cntN (256 * a + b) (8 + k) + (256 * a + b) / 2 ^ (8 + k) % 2 := rfl
      have e2 : cntN a (k + 1) = cntN a k + a / 2 ^ k % 2 := rfl
      rw [e1, e2, ih (by omega), hd, Nat.add_assoc]
  rw [e, c8 8 (Nat.le_refl 8), ta6, tb6, Nat.add_comm]
theorem nI_and (a b : Nat) : nI a &&& nI b = nI (a &&& b) := by
  apply Int32.toBitVec_inj.mp
  show BitVec.ofNat 32 a &&& BitVec.ofNat 32 b = BitVec.ofNat 32 (a &&& b)
  rw [BitVec.ofNat_and]
theorem bc_nat {x : Nat} (hx : x < 65536) : pJ6_bitCount_0f7a4 (nI x) = nI (popN x) := by
  have l0 : (x / 2 &&& 1431655765) ≤ x / 2 := Nat.and_le_left
  have u1 : ∀ n : Nat, n < 2 ^ 32 → ((nI n).toUInt32 >>> (Int32.toUInt32 1 &&& Int32.toUInt32 31)).toInt32 = nI (n / 2 ^ 1) := fun n hn => pk_ushrN hn 1 1 (by decide)
  have u2 : ∀ n : Nat, n < 2 ^ 32 → ((nI n).toUInt32 >>> (Int32.toUInt32 2 &&& Int32.toUInt32 31)).toInt32 = nI (n / 2 ^ 2) := fun n hn => pk_ushrN hn 2 2 (by decide)
  have u4 : ∀ n : Nat, n < 2 ^ 32 → ((nI n).toUInt32 >>> (Int32.toUInt32 4 &&& Int32.toUInt32 31)).toInt32 = nI (n / 2 ^ 4) := fun n hn => pk_ushrN hn 4 4 (by decide)
  have u8 : ∀ n : Nat, n < 2 ^ 32 → ((nI n).toUInt32 >>> (Int32.toUInt32 8 &&& Int32.toUInt32 31)).toInt32 = nI (n / 2 ^ 8) := fun n hn => pk_ushrN hn 8 8 (by decide)
  have u16 : ∀ n : Nat, n < 2 ^ 32 → ((nI n).toUInt32 >>> (Int32.toUInt32 16 &&& Int32.toUInt32 31)).toInt32 = nI (n / 2 ^ 16) := fun n hn => pk_ushrN hn 16 16 (by decide)
  have a5 : ∀ n : Nat, nI n &&& 1431655765 = nI (n &&& 1431655765) := fun n => nI_and n 1431655765
  have a3 : ∀ n : Nat, nI n &&& 858993459 = nI (n &&& 858993459) := fun n => nI_and n 858993459
  have a0 : ∀ n : Nat, nI n &&& 252645135 = nI (n &&& 252645135) := fun n => nI_and n 252645135
  have a6 : ∀ n : Nat, nI n &&& 63 = nI (n &&& 63) := fun n => nI_and n 63
  unfold pJ6_bitCount_0f7a4 popN
  simp only [w_lt]
  rw [u1 x (by omega), a5, show x / 2 ^ 1 = x / 2 from rfl, pk_sub (by omega)]
  have b1 : x - (x / 2 &&& 1431655765) < 65536 := by omega
  generalize x - (x / 2 &&& 1431655765) = x1 at *
  have l1 : (x1 &&& 858993459) ≤ x1 := Nat.and_le_left
  have l2 : (x1 / 4 &&& 858993459) ≤ x1 / 4 := Nat.and_le_left
  rw [u2 x1 (by omega), a3, a3, show x1 / 2 ^ 2 = x1 / 4 from rfl, nI_add]
  have b2 : (x1 &&& 858993459) + (x1 / 4 &&& 858993459) < 2 * 65536 := by omega
  generalize (x1 &&& 858993459) + (x1 / 4 &&& 858993459) = x2 at *
  have l3 : ((x2 + x2 / 16) &&& 252645135) ≤ x2 + x2 / 16 := Nat.and_le_left
  rw [u4 x2 (by omega), show x2 / 2 ^ 4 = x2 / 16 from rfl, nI_add, a0]
  have b3 : ((x2 + x2 / 16) &&& 252645135) < 4 * 65536 := by omega
  generalize ((x2 + x2 / 16) &&& 252645135) = x3 at *
  rw [u8 x3 (by omega), show x3 / 2 ^ 8 = x3 / 256 from rfl, nI_add]
  have b4 : x3 + x3 / 256 < 8 * 65536 := by omega
  generalize x3 + x3 / 256 = x4 at *
  rw [u16 x4 (by omega), show x4 / 2 ^ 16 = x4 / 65536 from rfl, nI_add, a6]
theorem cnt_mod (m : Nat) {n : Nat} : ∀ k, cntN (m % 2 ^ n) k = cntN m (min k n) := by
  intro k
  induction k with
  | zero => rw [Nat.zero_min]; rfl
  | succ k ih =>
    have e : m % 2 ^ n / 2 ^ k % 2 = if k < n then m / 2 ^ k % 2 else 0 := by
      have h1 : (m % 2 ^ n).testBit k = (decide (k < n) && m.testBit k) := Nat.testBit_mod_two_pow m n k
      rw [Nat.testBit_eq_decide_div_mod_eq, Nat.testBit_eq_decide_div_mod_eq] at h1
      have b1 : m % 2 ^ n / 2 ^ k % 2 < 2 := Nat.mod_lt _ (by decide)
      have b2 : m / 2 ^ k % 2 < 2 := Nat.mod_lt _ (by decide)
      by_cases c : k < n
      · rw [if_pos c]
        simp only [c, decide_true, Bool.true_and, decide_eq_decide] at h1
        omega
      · rw [if_neg c]
        simp only [c, decide_false, Bool.false_and, decide_eq_false_iff_not] at h1
        omega
    by_cases c : k < n
    · rw [show min (k + 1) n = k + 1 by omega, cntN, cntN, ih, e, if_pos c, show min k n = k by omega]
    · rw [show min (k + 1) n = n by omega, cntN, ih, e, if_neg c, show min k n = n by omega, Nat.add_zero]
theorem low_bits : ∀ n, n ≤ 16 → ((1 : Int32) <<< (nI n &&& 31)) - 1 = nI (2 ^ n - 1) := by
  have h : ∀ n, n < 17 → ((1 : Int32) <<< (nI n &&& 31)) - 1 = nI (2 ^ n - 1) := by decide +kernel
  exact fun n hn => h n (by omega)
/-- how many of the bits below VL are set, in the class -/
theorem bc_low {m n : Nat} (hm : m < 65536) (hn : n ≤ 16) : pJ6_bitCount_0f7a4 (nI m &&& (((1 : Int32) <<< (nI n &&& 31)) - 1)) = nI (cntN m n) := by
  rw [low_bits n hn, nI_and, Nat.and_two_pow_sub_one_eq_mod]
  have h1 : m % 2 ^ n ≤ m := Nat.mod_le _ _
  rw [bc_nat (by omega), pop_cnt (by omega), cnt_mod m 16, show min 16 n = n by omega]
theorem shr_bit {m i : Nat} (hm : m < 65536) (hi : i < 16) : (nI m >>> (nI i &&& 31)) &&& 1 = nI (m / 2 ^ i % 2) := by
  have hs : ∀ i, i < 16 → ((nI i &&& 31 : Int32).toBitVec.smod 32).toNat = i := by decide +kernel
  rw [pk_shrN (by omega) (nI i &&& 31) i (hs i hi), pk_andN (n := m / 2 ^ i) (m := 1) (Nat.lt_of_le_of_lt (Nat.div_le_self _ _) (by omega)) 1 (by decide)]
theorem cnt_le (m n : Nat) : cntN m n ≤ n := by
  induction n with
  | zero => exact Nat.le_refl 0
  | succ n ih =>
    have : m / 2 ^ n % 2 < 2 := Nat.mod_lt _ (by decide)
    simp only [cntN]
    omega
end CNT
