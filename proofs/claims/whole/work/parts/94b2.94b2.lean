/-! what a division leaves: longs -/
section DRL
theorem l_mod {x y : Int64} (h0 : 0 ≤ x.toInt) (h1 : 0 < y.toInt) : (x - x / y * y).toInt = x.toInt % y.toInt := by
  have hx := x.toInt_lt
  have hy := y.toInt_lt
  have d0 : 0 ≤ x.toInt / y.toInt := Int.ediv_nonneg h0 (by omega)
  have d1 : x.toInt / y.toInt ≤ x.toInt := Int.ediv_le_self _ h0
  have d2 : x.toInt / y.toInt * y.toInt ≤ x.toInt := Int.ediv_mul_le _ (by omega)
  have d3 : 0 ≤ x.toInt / y.toInt * y.toInt := Int.mul_nonneg d0 (by omega)
  have e1 : (x / y).toInt = x.toInt / y.toInt := by
    rw [Int64.toInt_div, Int.tdiv_eq_ediv_of_nonneg h0]
    exact Int.bmod_eq_of_le (by omega) (by omega)
  have e2 : (x / y * y).toInt = x.toInt / y.toInt * y.toInt := by
    rw [Int64.toInt_mul, e1]
    exact Int.bmod_eq_of_le (by omega) (by omega)
  rw [Int64.toInt_sub, e2, Int.emod_def, Int.mul_comm y.toInt]
  exact Int.bmod_eq_of_le (by omega) (by omega)
theorem l_sh : ∀ k, k ≤ 10 → (Int32.toInt64 (nI k) &&& 63 : Int64).toBitVec.smod 64 = BitVec.ofNat 64 k := by decide +kernel
theorem l_shl {x : Int64} {k : Nat} (hk : k ≤ 10) (h0 : 0 ≤ x.toInt) (h1 : x.toInt < 2 ^ 53) : (x <<< (Int32.toInt64 (nI k) &&& 63)).toInt = x.toInt * 2 ^ k := by
  have e : (x <<< (Int32.toInt64 (nI k) &&& 63)).toBitVec = x.toBitVec <<< (BitVec.ofNat 64 k) := by
    rw [← l_sh k hk]; rfl
  have e2 : (x.toBitVec <<< (BitVec.ofNat 64 k)) = x.toBitVec <<< k := by
    rw [BitVec.shiftLeft_eq', BitVec.toNat_ofNat, Nat.mod_eq_of_lt (by omega)]
  have xn : (x.toBitVec.toNat : Int) = x.toInt := by
    have := BitVec.toInt_eq_toNat_bmod x.toBitVec
    have h2 : x.toBitVec.toInt = x.toInt := rfl
    have h3 := x.toBitVec.isLt
    rw [h2] at this
    rw [Int.bmod_def] at this
    omega
  show (x <<< (Int32.toInt64 (nI k) &&& 63)).toBitVec.toInt = _
  rw [e, e2, BitVec.toInt_shiftLeft, Nat.shiftLeft_eq]
  push_cast
  rw [xn]
  have p : (2 : Int) ^ k ≤ 2 ^ 10 := by
    have := Nat.pow_le_pow_right (show 0 < 2 by decide) hk
    exact_mod_cast this
  have p0 : (0 : Int) < 2 ^ k := by
    have := two_pos k
    exact_mod_cast this
  have b1 : x.toInt * 2 ^ k ≤ x.toInt * 2 ^ 10 := Int.mul_le_mul_of_nonneg_left p h0
  have b0 : 0 ≤ x.toInt * 2 ^ k := Int.mul_nonneg h0 (by omega)
  refine Int.bmod_eq_of_le ?_ ?_
  · omega
  · have : x.toInt * 2 ^ 10 < 2 ^ 63 := by omega
    omega
end DRL
section DRJ
variable {g : MT} {h : CT} {a P p1 p2 : Nat}
theorem join_exact (Q : SpH g h a P) {l : Int64} {R Z i j : Nat} {e : Int} (hl : l.toInt = R) (hR : R < 2 ^ 53) (rel : Z * 2 ^ i = R * 2 ^ j) (hZ : Z < 2 ^ 2098) (he : e = (j : Int) - i - 1074) (lo : -1200 ≤ e) (hi : e ≤ 980) : ∃ x, pX1_join g h a l (Int32.ofInt e) = some x ∧ VV x false Z := by
  have V := VV_long (n := l) (by rw [hl]; omega)
  rw [hl, show ((R : Int)).natAbs = R by omega, show decide ((R : Int) < 0) = false by simp] at V
  by_cases c : 0 ≤ e
  · have e1 : Int32.ofInt e = nI e.toNat := by
      refine Int32.toInt_inj.mp ?_
      rw [nI_toInt (by omega), Int32.toInt_ofInt_of_le (by omega) (by omega)]; omega
    have eZ : R * FP.Core.one64 * 2 ^ e.toNat = Z := by
      have : R * FP.Core.one64 * 2 ^ e.toNat * 2 ^ i = Z * 2 ^ i := by
        rw [rel]
        unfold FP.Core.one64
        rw [Nat.mul_assoc, Nat.mul_assoc, ← Nat.pow_add, ← Nat.pow_add]
        congr 2
        omega
      exact Nat.eq_of_mul_eq_mul_right (two_pos _) this
    have c0 : (0 : Int32) ≤ nI e.toNat := nI_le (a := 0) (Nat.zero_le _) (by omega)
    obtain ⟨x, x1, x2⟩ := jn_mul2 (p1 := l) Q c0 10 FUEL e.toNat _ _ (by decide) (by decide) (show e.toNat < 2 ^ 10 by omega) V (by rw [eZ]; exact hZ)
    rw [eZ] at x2
    refine ⟨x, ?_, x2⟩
    rw [e1]
    unfold pX1_join pX1_join_b14
    rw [w_tg Q.1, w_lt, if_pos c0]
    exact x1
  · have en : -(Int32.ofInt e) = nI (-e).toNat := by
      refine Int32.toInt_inj.mp ?_
      rw [nI_toInt (by omega), Int32.toInt_neg, Int32.toInt_ofInt_of_le (by omega) (by omega), Int.bmod_eq_of_le (by omega) (by omega)]
      omega
    have eZ : R * FP.Core.one64 = Z * 2 ^ (-e).toNat := by
      have : R * FP.Core.one64 * 2 ^ j = Z * 2 ^ (-e).toNat * 2 ^ j := by
        rw [Nat.mul_right_comm, ← rel]
        unfold FP.Core.one64
        rw [Nat.mul_assoc, Nat.mul_assoc, ← Nat.pow_add, ← Nat.pow_add]
        congr 2
        omega
      exact Nat.eq_of_mul_eq_mul_right (two_pos _) this
    rw [eZ] at V
    have c0 : ¬ (0 : Int32) ≤ Int32.ofInt e := by
      rw [Int32.le_iff_toInt_le, Int32.toInt_ofInt_of_le (by omega) (by omega)]
      exact c
    obtain ⟨x, x1, x2⟩ := jn_div2 (p1 := l) Q c0 10 FUEL (-e).toNat _ (by decide) (by decide) (show (-e).toNat + 2 ≤ 2 * 2 ^ 10 by omega) V
    refine ⟨x, ?_, x2⟩
    unfold pX1_join pX1_join_b14
    rw [w_tg Q.1, w_lt, if_neg c0, en]
    exact x1
theorem rem_loop {lc : Int64} {c : Nat} (hc : lc.toInt = c) (c0 : 0 < c) (c1 : c < 2 ^ 53) (l9 : Int32) : ∀ (n : Nat) (G : Int) (f : Nat) (lr : Int64) (r : Nat), G ≤ 10 * n → -10 ≤ G → G ≤ 4000 → n < f → lr.toInt = r → r < c → ∃ lr' : Int64, lr'.toInt = ((r * 2 ^ G.toNat % c : Nat) : Int) ∧ pX1_remainder_l146 g a p1 p2 f lc l9 lr (Int32.ofInt G) h = bd (pX1_join g h a lr' l9) fun x2 => (tg g p1 4 (if 0 ≤ (Op.cmpValue (FP.dcmp (hD h p1 0) 0) .g) then pX1_remainder_b200 g a p1 p2 p1 x2 h else pX1_remainder_b200 g a p1 p2 p1 (fneg x2) h)) := by
  have hlc : ¬ lc = 0 := fun w => by
    rw [w] at hc
    have : (0 : Int64).toInt = 0 := rfl
    omega
  intro n
  induction n with
  | zero =>
    intro G f lr r g1 g2 g3 hf hr hrc
    obtain ⟨f, rfl⟩ : ∃ f', f = f' + 1 := ⟨f - 1, by omega⟩
    refine ⟨lr, ?_, ?_⟩
    · rw [show G.toNat = 0 by omega, Nat.pow_zero, Nat.mul_one, Nat.mod_eq_of_lt hrc]; exact hr
    · rw [pX1_remainder_l146, pX1_remainder_b146, if_pos (by
        rw [Int32.le_iff_toInt_le, Int32.toInt_ofInt_of_le (by omega) (by omega)]
        show G ≤ 0
        omega)]
  | succ n ih =>
    intro G f lr r g1 g2 g3 hf hr hrc
    obtain ⟨f, rfl⟩ : ∃ f', f = f' + 1 := ⟨f - 1, by omega⟩
    by_cases cG : G ≤ 0
    · refine ⟨lr, ?_, ?_⟩
      · rw [show G.toNat = 0 by omega, Nat.pow_zero, Nat.mul_one, Nat.mod_eq_of_lt hrc]; exact hr
      · rw [pX1_remainder_l146, pX1_remainder_b146, if_pos (by
          rw [Int32.le_iff_toInt_le, Int32.toInt_ofInt_of_le (by omega) (by omega)]
          exact cG)]
    · obtain ⟨k, hk, k10, kG, kr⟩ : ∃ k, pJ9_min_7cf53 (Int32.ofInt G) 10 = nI k ∧ k ≤ 10 ∧ G.toNat = k + (G - 10).toNat ∧ (k : Int) ≤ G := by
        unfold pJ9_min_7cf53
        by_cases w : 10 < G
        · refine ⟨10, ?_, by omega, by omega, by omega⟩
          rw [if_pos (by
            rw [Int32.lt_iff_toInt_lt, Int32.toInt_ofInt_of_le (by omega) (by omega)]
            exact w)]
          rfl
        · refine ⟨G.toNat, ?_, by omega, by omega, by omega⟩
          rw [if_neg (by
            rw [Int32.lt_iff_toInt_lt, Int32.toInt_ofInt_of_le (by omega) (by omega)]
            exact w)]
          refine Int32.toInt_inj.mp ?_
          rw [nI_toInt (by omega), Int32.toInt_ofInt_of_le (by omega) (by omega)]
          omega
      have eG : Int32.ofInt G + (-10) = Int32.ofInt (G - 10) := by
        refine Int32.toInt_inj.mp ?_
        rw [Int32.toInt_add, Int32.toInt_ofInt_of_le (by omega) (by omega), Int32.toInt_ofInt_of_le (by omega) (by omega), show (-10 : Int32).toInt = -10 from rfl, Int.bmod_eq_of_le (by omega) (by omega)]
        omega
      have s1 : (lr <<< (Int32.toInt64 (nI k) &&& 63)).toInt = ((r * 2 ^ k : Nat) : Int) := by
        rw [l_shl k10 (by omega) (by omega), hr]
        push_cast
        rfl
      have s2 : ((lr <<< (Int32.toInt64 (nI k) &&& 63)) - (lr <<< (Int32.toInt64 (nI k) &&& 63)) / lc * lc).toInt = ((r * 2 ^ k % c : Nat) : Int) := by
        rw [l_mod (by rw [s1]; exact Int.natCast_nonneg _) (by omega), s1, hc]
        push_cast
        rfl
      obtain ⟨lr', q1, q2⟩ := ih (G - 10) f _ (r * 2 ^ k % c) (by omega) (by omega) (by omega) (by omega) s2 (Nat.mod_lt _ c0)
      refine ⟨lr', ?_, ?_⟩
      · rw [q1, kG, Nat.pow_add, ← Nat.mul_assoc, Nat.mul_mod, Nat.mod_mod, ← Nat.mul_mod]
      · rw [pX1_remainder_l146, pX1_remainder_b146, if_neg (by
          rw [Int32.le_iff_toInt_le, Int32.toInt_ofInt_of_le (by omega) (by omega)]
          exact cG), hk, w_dvL hlc, w_lt, w_lt, eG]
        exact q2
end DRJ
