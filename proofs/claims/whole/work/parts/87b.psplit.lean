/-! a NUMBER told as an odd whole one and a power of 2: the class's split -/
def Odd1 (z : Nat) (n : Nat) (e : Int) : Prop := n % 2 = 1 ∧ ∃ a b : Nat, z * 2 ^ a = n * 2 ^ b ∧ e = (b : Int) - a - 1074
theorem odd_pow {n n' x y : Nat} (h : n % 2 = 1) (h' : n' % 2 = 1) (e : n * 2 ^ x = n' * 2 ^ y) : n = n' ∧ x = y := by
  induction x generalizing y with
  | zero =>
    cases y with
    | zero => exact ⟨by simpa using e, rfl⟩
    | succ y => rw [Nat.pow_zero, Nat.mul_one, Nat.pow_succ, ← Nat.mul_assoc] at e; omega
  | succ x ih =>
    cases y with
    | zero => rw [Nat.pow_zero, Nat.mul_one, Nat.pow_succ, ← Nat.mul_assoc] at e; omega
    | succ y =>
      rw [Nat.pow_succ, Nat.pow_succ, ← Nat.mul_assoc, ← Nat.mul_assoc] at e
      have := ih (y := y) (by omega)
      exact ⟨this.1, by omega⟩
theorem Odd1.uni {z n n' : Nat} {e e' : Int} (H : Odd1 z n e) (H' : Odd1 z n' e') : n = n' ∧ e = e' := by
  obtain ⟨o, a, b, h, q⟩ := H
  obtain ⟨o', a', b', h', q'⟩ := H'
  have : n * 2 ^ (b + a') = n' * 2 ^ (b' + a) := by
    rw [Nat.pow_add, Nat.pow_add, ← Nat.mul_assoc, ← Nat.mul_assoc, ← h, ← h', Nat.mul_assoc, Nat.mul_assoc, Nat.mul_comm (2 ^ a)]
  have := odd_pow o o' this
  exact ⟨this.1, by omega⟩
theorem zv_53 : FP.Core.zval FP.Core.b64 (FP.Core.val64 4845873199050653696) = FP.Core.signed false (2 ^ 1127) := by decide +kernel
theorem DV_53 : DV 4845873199050653696 false (2 ^ 1127) := ⟨2 ^ 52, 1, by decide +kernel, by decide +kernel⟩
theorem DV_52 : DV 4841369599423283200 false (2 ^ 1126) := ⟨2 ^ 52, 0, by decide +kernel, by decide +kernel⟩
theorem DV_m53 : DV 14069245235905429504 true (2 ^ 1127) := ⟨2 ^ 52, 1, by decide +kernel, by decide +kernel⟩
theorem DV_thr {k : Nat} (hk : k < 10) : DV (fdiv 4845873199050653696 (pw k)) false (2 ^ (1127 - 2 ^ k)) := by
  have h9 : 2 ^ k ≤ 512 := (show 2 ^ k ≤ 2 ^ 9 from Nat.pow_le_pow_right (by decide) (by omega))
  obtain ⟨w, h1, h2⟩ := DV_53.fdiv (pw_P2 k hk) (Nat.pow_le_pow_right (by decide) (by omega))
  have : w = 2 ^ (1127 - 2 ^ k) := by
    have e : 2 ^ 1127 = 2 ^ (1127 - 2 ^ k) * 2 ^ (2 ^ k) := by rw [← Nat.pow_add]; congr 1; omega
    rw [e] at h2
    exact Nat.eq_of_mul_eq_mul_right (two_pos _) h2
  rw [← this]; exact h1
theorem shl_k : ∀ k, k < 10 → (1 : Int32) <<< (nI k &&& 31) = Int32.ofInt ((2 ^ k : Nat) : Int) := by decide +kernel
theorem dec_k : ∀ k, k < 10 → nI (k + 1) + (-1) = nI k ∧ ¬ nI k < 0 := by decide +kernel
theorem inc_k : ∀ t, t < 2 → nI t + 1 = nI (t + 1) ∧ ¬ 2 ≤ nI t := by decide +kernel
section SPL
variable {g : MT} {h : CT} {a P : Nat} {p1 : UInt64}
def SpH (g : MT) (h : CT) (a P : Nat) : Prop := gT g a = 1 ∧ gT g P = 22 ∧ gL g P = 10 ∧ hR h a 2 = some P ∧ ∀ k, k < 10 → hD h P k = pw k
theorem sp30 (Q : SpH g h a P) {k : Nat} (hk : k < 10) {k22 : UInt64 → Int32 → CT → Option CT} : ∀ (d t f z : Nat) (e : Int) (l3 : UInt64), t + d = 2 → d < f → DV l3 false z → 2 ^ (1127 - 2 ^ k) ≤ z * 2 ^ (d * 2 ^ k) →
    ∃ l3' z' j, pX1_split_l30 g a p1 k22 f l3 (nI k) (nI t) (sI h a 4 (Int32.ofInt e)) = k22 l3' (nI k + (-1)) (sI h a 4 (Int32.ofInt (e - (j : Nat)))) ∧ DV l3' false z' ∧ (z' = z ∨ z' < 2 ^ 1127) ∧ 2 ^ (1127 - 2 ^ k) ≤ z' ∧ z * 2 ^ j = z' := by
  obtain ⟨T, TP, LP, R2, hP⟩ := Q
  have h9 : 2 ^ k ≤ 512 := (show 2 ^ k ≤ 2 ^ 9 from Nat.pow_le_pow_right (by decide) (by omega))
  have ht := DV_thr hk
  intro d
  induction d with
  | zero =>
    intro t f z e l3 e1 hf D hz
    obtain ⟨f, rfl⟩ : ∃ f', f = f' + 1 := ⟨f - 1, by omega⟩
    obtain rfl : t = 2 := by omega
    refine ⟨l3, z, 0, ?_, D, Or.inl rfl, by simpa using hz, by simp⟩
    show pX1_split_b30 g a p1 k22 (pX1_split_l30 g a p1 k22 f) l3 (nI k) (nI 2) _ = _
    unfold pX1_split_b30 pX1_split_b81
    rw [if_pos (by decide)]
    rw [show e - ((0 : Nat) : Int) = e by omega]
    rfl
  | succ d ih =>
    intro t f z e l3 e1 hf D hz
    obtain ⟨f, rfl⟩ : ∃ f', f = f' + 1 := ⟨f - 1, by omega⟩
    have e2 := inc_k t (by omega)
    show ∃ l3' z' j, pX1_split_b30 g a p1 k22 (pX1_split_l30 g a p1 k22 f) l3 (nI k) (nI t) _ = _ ∧ _
    have cP : hD (sI h a 4 (Int32.ofInt e)) P k = pw k := hP k hk
    have q2 : hR (sI h a 4 (Int32.ofInt e)) a 2 = some P := R2
    have cnd : (0 ≤ Op.cmpValue (FP.dcmp l3 (fdiv 4845873199050653696 (pw k))) .g) = (2 ^ (1127 - 2 ^ k) ≤ z) := by
      rw [fc_ge D.nn ht.nn]; exact propext (ht.le D)
    unfold pX1_split_b30 pX1_split_b81
    simp only [if_neg e2.2, q2, w_lt, w_nn, w_tg TP, LP, w_ix hk (by decide), nI_clamp (show k < 2 ^ 31 by omega), cP, cnd]
    by_cases c : 2 ^ (1127 - 2 ^ k) ≤ z
    · simp only [if_pos c]
      exact ⟨l3, z, 0, by rw [show e - ((0 : Nat) : Int) = e by omega], D, Or.inl rfl, c, by simp⟩
    · simp only [if_neg c]
      have D' := D.fmul (pw_P2 k hk) (by omega) (Nat.lt_of_lt_of_le (Nat.not_le.mp c) (Nat.pow_le_pow_right (by decide) (by omega)))
      obtain ⟨l3', z', j, r1, r2, r3, r4, r5⟩ := ih (t + 1) f (z * 2 ^ (2 ^ k)) (e - ((2 ^ k : Nat) : Int)) (fmul l3 (pw k)) (by omega) (by omega) D' (by
        rw [Nat.mul_assoc, ← Nat.pow_add, show 2 ^ k + d * 2 ^ k = (d + 1) * 2 ^ k by rw [Nat.succ_mul]; omega]; exact hz)
      refine ⟨l3', z', 2 ^ k + j, ?_, r2, Or.inr ?_, r4, by rw [Nat.pow_add, ← Nat.mul_assoc]; exact r5⟩
      · rw [e2.1, hI_s, sI_sI, shl_k k hk, ← Int32.ofInt_sub, r1]
        rw [show e - ((2 ^ k : Nat) : Int) - (j : Int) = e - ((2 ^ k + j : Nat) : Int) by omega]
      · rcases r3 with r3 | r3
        · rw [r3]
          calc z * 2 ^ 2 ^ k < 2 ^ (1127 - 2 ^ k) * 2 ^ 2 ^ k := Nat.mul_lt_mul_of_pos_right (Nat.not_le.mp c) (two_pos _)
            _ = 2 ^ 1127 := by rw [← Nat.pow_add]; congr 1; omega
        · exact r3
theorem sp22 (Q : SpH g h a P) : ∀ (m f z : Nat) (e : Int) (l3 : UInt64), m ≤ 10 → m < f → DV l3 false z → (m = 0 → 2 ^ 1126 ≤ z) → (∀ k, m = k + 1 → 2 ^ (1127 - 2 ^ k) ≤ z * 2 ^ (2 * 2 ^ k)) →
    ∃ l3' z' j, pX1_split_l22 g a p1 f l3 (nI m + (-1)) (sI h a 4 (Int32.ofInt e)) = pX1_split_l91 g a p1 FUEL l3' 9 (sI h a 4 (Int32.ofInt (e - (j : Nat)))) ∧ DV l3' false z' ∧ (z' = z ∨ z' < 2 ^ 1127) ∧ 2 ^ 1126 ≤ z' ∧ z * 2 ^ j = z' := by
  intro m
  induction m with
  | zero =>
    intro f z e l3 hm hf D h0 _
    obtain ⟨f, rfl⟩ : ∃ f', f = f' + 1 := ⟨f - 1, by omega⟩
    refine ⟨l3, z, 0, ?_, D, Or.inl rfl, h0 rfl, by simp⟩
    show pX1_split_b22 g a p1 (pX1_split_l22 g a p1 f) l3 (nI 0 + (-1)) _ = _
    unfold pX1_split_b22
    rw [if_pos (by decide), show e - ((0 : Nat) : Int) = e by omega]
  | succ k ih =>
    intro f z e l3 hm hf D h0 hk
    obtain ⟨f, rfl⟩ : ∃ f', f = f' + 1 := ⟨f - 1, by omega⟩
    have e2 := dec_k k (by omega)
    obtain ⟨l3', z', j, r1, r2, r3, r4, r5⟩ := sp30 (p1 := p1) Q (show k < 10 by omega) (k22 := pX1_split_l22 g a p1 f) 2 0 FUEL z e l3 rfl (by decide) D (hk k rfl)
    obtain ⟨l4, z4, i, s1, s2, s3, s4, s5⟩ := ih f z' (e - (j : Nat)) l3' (by omega) (by omega) r2 (fun k0 => by subst k0; simpa using r4) (fun k' k0 => by
      subst k0
      refine Nat.le_trans (Nat.pow_le_pow_right (by decide) (?_ : 1127 - 2 ^ k' ≤ (1127 - 2 ^ (k' + 1)) + 2 * 2 ^ k')) ?_
      · rw [Nat.pow_succ]; omega
      · rw [Nat.pow_add]; exact Nat.mul_le_mul_right _ r4)
    refine ⟨l4, z4, j + i, ?_, s2, ?_, s4, by rw [Nat.pow_add, ← Nat.mul_assoc, r5]; exact s5⟩
    · show pX1_split_b22 g a p1 (pX1_split_l22 g a p1 f) l3 (nI (k + 1) + (-1)) _ = _
      unfold pX1_split_b22
      rw [e2.1, if_neg e2.2, show (0 : Int32) = nI 0 from rfl, r1, s1]
      rw [show e - (j : Int) - (i : Int) = e - ((j + i : Nat) : Int) by omega]
    · rcases s3 with s3 | s3
      · rw [s3]; exact r3
      · exact Or.inr s3
theorem sp91 (Q : SpH g h a P) (hp : FP.dIsNaN p1 = false) : ∀ (m f z : Nat) (e : Int) (l3 : UInt64), m ≤ 10 → m < f → DV l3 false z → 2 ^ 1126 ≤ z → z < 2 ^ (1126 + 2 ^ m) →
    ∃ l3' z' j, pX1_split_l91 g a p1 f l3 (nI m + (-1)) (sI h a 4 (Int32.ofInt e)) = some (sL (sI h a 4 (Int32.ofInt (e + (j : Nat)))) a 3 (if 0 ≤ KD p1 then FP.d2l l3' else -(FP.d2l l3'))) ∧ DV l3' false z' ∧ z' < 2 ^ 1127 ∧ 2 ^ 1126 ≤ z' ∧ z' * 2 ^ j = z := by
  obtain ⟨T, TP, LP, R2, hP⟩ := Q
  intro m
  induction m with
  | zero =>
    intro f z e l3 hm hf D h0 h1
    obtain ⟨f, rfl⟩ : ∃ f', f = f' + 1 := ⟨f - 1, by omega⟩
    refine ⟨l3, z, 0, ?_, D, h1, h0, by simp⟩
    show pX1_split_b91 g a p1 (pX1_split_l91 g a p1 f) l3 (nI 0 + (-1)) _ = _
    unfold pX1_split_b91 pX1_split_b156
    rw [if_pos (by decide), show e + ((0 : Nat) : Int) = e by omega]
    simp only [fc_ge hp nn_0, kd_0, w_tg T, w_lt]
    split <;> rfl
  | succ k ih =>
    intro f z e l3 hm hf D h0 h1
    obtain ⟨f, rfl⟩ : ∃ f', f = f' + 1 := ⟨f - 1, by omega⟩
    have hk : k < 10 := by omega
    have h9 : 2 ^ k ≤ 512 := (show 2 ^ k ≤ 2 ^ 9 from Nat.pow_le_pow_right (by decide) (by omega))
    have e2 := dec_k k (by omega)
    obtain ⟨w, d1, d2⟩ := D.fdiv (pw_P2 k hk) (Nat.le_trans (Nat.pow_le_pow_right (by decide) (by omega)) h0)
    have cP : hD (sI h a 4 (Int32.ofInt e)) P k = pw k := hP k hk
    have q2 : hR (sI h a 4 (Int32.ofInt e)) a 2 = some P := R2
    have cnd : (Op.cmpValue (FP.dcmp (fdiv l3 (pw k)) 4841369599423283200) .l < 0) = (w < 2 ^ 1126) := by
      rw [fc_lt d1.nn DV_52.nn]; exact propext (d1.lt DV_52)
    show ∃ l3' z' j, pX1_split_b91 g a p1 (pX1_split_l91 g a p1 f) l3 (nI (k + 1) + (-1)) _ = _ ∧ _
    unfold pX1_split_b91 pX1_split_b135
    rw [e2.1]
    simp only [if_neg e2.2, q2, w_lt, w_nn, w_tg TP, LP, w_ix hk (by decide), nI_clamp (show k < 2 ^ 31 by omega), cP, cnd]
    by_cases c : w < 2 ^ 1126
    · simp only [if_pos c]
      refine ih f z e l3 (by omega) (by omega) D h0 ?_
      rw [← d2, Nat.pow_add]
      exact Nat.mul_lt_mul_of_pos_right c (two_pos _)
    · simp only [if_neg c]
      have hw : w < 2 ^ (1126 + 2 ^ k) := by
        have : w * 2 ^ 2 ^ k < 2 ^ (1126 + 2 ^ k) * 2 ^ 2 ^ k := by
          rw [d2, ← Nat.pow_add]
          refine Nat.lt_of_lt_of_le h1 (Nat.pow_le_pow_right (by decide) ?_)
          rw [Nat.pow_succ]; omega
        exact Nat.lt_of_mul_lt_mul_right this
      obtain ⟨l3', z', j, r1, r2, r3, r4, r5⟩ := ih f w (e + ((2 ^ k : Nat) : Int)) _ (by omega) (by omega) d1 (by omega) hw
      refine ⟨l3', z', j + 2 ^ k, ?_, r2, r3, r4, by rw [Nat.pow_add, ← Nat.mul_assoc, r5]; exact d2⟩
      rw [hI_s, sI_sI, shl_k k hk, ← Int32.ofInt_add, r1]
      rw [show e + ((2 ^ k : Nat) : Int) + (j : Int) = e + ((j + 2 ^ k : Nat) : Int) by omega]
theorem KD_sg {s : Bool} {z : Nat} {v : UInt64} (D : DV v s z) (h0 : 0 < z) : (0 ≤ KD v) ↔ s = false := by
  have := kz_le nn_0 D.nn
  rw [kd_0, D.zv] at this
  rw [this]
  have e0 : FP.Core.zval FP.Core.b64 (FP.Core.val64 0) = 0 := by decide +kernel
  rw [e0]
  unfold FP.Core.signed
  cases s
  · simp
  · simp; omega
theorem DV.neg {s : Bool} {z : Nat} {v : UInt64} (D : DV v s z) : DV (fneg v) (!s) z := by
  rw [fneg_nn D.nn]
  obtain ⟨c, q, h, e⟩ := D
  refine ⟨c, q, ?_, e⟩
  rw [FP.val64_dneg, h]
  rfl
theorem split_spec (Q : SpH g h a P) {s : Bool} {z : Nat} (D : DV p1 s z) (h0 : 0 < z) (hz : z < 2 ^ 2098) : ∃ e n : Int, ∃ c : Nat, n = FP.Core.signed s c ∧ c < 2 ^ 53 ∧ 0 < c ∧ (∃ i j : Nat, z * 2 ^ i = c * 2 ^ j ∧ e = (j : Int) - i - 1074) ∧ ∃ l : Int64, l.toInt = n ∧ pX1_split g h a p1 = some (sL (sI h a 4 (Int32.ofInt e)) a 3 l) := by
  have T := Q.1
  have D0 : DV (if 0 ≤ KD p1 then p1 else fneg p1) false z := by
    cases s with
    | false => rw [if_pos ((KD_sg D h0).mpr rfl)]; exact D
    | true => rw [if_neg (fun x => by have := (KD_sg D h0).mp x; cases this)]; exact D.neg
  have hh : pX1_split g h a p1 = pX1_split_l22 g a p1 FUEL (if 0 ≤ KD p1 then p1 else fneg p1) (nI 10 + (-1)) (sI h a 4 (Int32.ofInt 0)) := by
    unfold pX1_split pX1_split_b12
    simp only [w_tg T, w_lt, fc_ge D.nn nn_0, kd_0]
    split <;> rfl
  obtain ⟨x, z1, j, r1, r2, r3, r4, r5⟩ := sp22 (p1 := p1) Q 10 FUEL z 0 _ (by decide) (by decide) D0 (fun x => by omega) (fun k hk => by
    obtain rfl : k = 9 := by omega
    refine Nat.le_trans ?_ (Nat.le_mul_of_pos_left _ h0)
    exact Nat.pow_le_pow_right (by decide) (by decide))
  obtain ⟨y, z2, i, s1, s2, s3, s4, s5⟩ := sp91 Q D.nn 10 FUEL z1 (0 - (j : Nat)) x (by decide) (by decide) r2 r4 (by
    rcases r3 with r3 | r3
    · rw [r3]; exact Nat.lt_of_lt_of_le hz (Nat.pow_le_pow_right (by decide) (by decide))
    · exact Nat.lt_of_lt_of_le r3 (Nat.pow_le_pow_right (by decide) (by decide)))
  obtain ⟨c, q, -, c1, q1, q2, q3, ez⟩ := s2.fit
  have hq : 1074 ≤ (q + 1074).toNat := by
    have : 2 ^ 1126 < 2 ^ (53 + (q + 1074).toNat) := by
      refine Nat.lt_of_le_of_lt s4 ?_
      rw [ez, Nat.pow_add]
      exact Nat.mul_lt_mul_of_pos_right c1 (two_pos _)
    have := (Nat.pow_lt_pow_iff_right (by decide : 1 < 2)).mp this
    omega
  have e1 : z2 = c * 2 ^ ((q + 1074).toNat - 1074) * FP.Core.one64 := by
    unfold FP.Core.one64
    rw [Nat.mul_assoc, ← Nat.pow_add, ez]
    congr 2
    omega
  generalize hn : c * 2 ^ ((q + 1074).toNat - 1074) = n at e1
  have ho : (0 : Nat) < FP.Core.one64 := two_pos _
  have n1 : n < 2 ^ 53 := by
    have : n * FP.Core.one64 < 2 ^ 53 * FP.Core.one64 := by
      rw [← e1]; unfold FP.Core.one64; rw [← Nat.pow_add]; exact s3
    exact Nat.lt_of_mul_lt_mul_right this
  have n0 : 0 < n := by
    rcases Nat.eq_zero_or_pos n with x | x
    · rw [x, Nat.zero_mul] at e1
      have := two_pos 1126
      omega
    · exact x
  have dl : (FP.d2l y).toInt = (n : Int) := by
    rw [s2.d2l, e1, Nat.mul_div_cancel _ ho]
    unfold FP.Core.signed
    simp only [Bool.false_eq_true, if_false]
    omega
  refine ⟨0 - (j : Nat) + (i : Nat), FP.Core.signed s n, n, rfl, n1, n0, ⟨j, i + 1074, ?_, by omega⟩, _, ?_, by rw [hh, r1, show (9 : Int32) = nI 10 + (-1) from by decide, s1]⟩
  · rw [r5, ← s5, e1]
    unfold FP.Core.one64
    rw [Nat.mul_assoc, ← Nat.pow_add, Nat.add_comm 1074]
  · cases s with
    | false => rw [if_pos ((KD_sg D h0).mpr rfl), dl]; rfl
    | true =>
      rw [if_neg (fun x => by have := (KD_sg D h0).mp x; cases this), Int64.toInt_neg, dl]
      show Int.bmod _ _ = - (n : Int)
      rw [Int.bmod_eq_of_le (by omega) (by omega)]
end SPL
