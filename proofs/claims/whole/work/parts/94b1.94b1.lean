/-! what a division leaves: numbers, exactly -/
section DRM
variable {a b : UInt64} {s : Bool} {z w j v : Nat}
theorem dvMul2 (H : DV a s z) (P : P2 b j) (hj : j ≤ 2000) (hz : z * 2 ^ j < 2 ^ 2098) : DV (fmul a b) s (z * 2 ^ j) := by
  obtain ⟨c, q, h, c1, q1, q2, q3, e⟩ := H.fit
  have hq : q + j ≤ 971 := by
    rcases q3 with q3 | q3
    · omega
    · have l1 : 2 ^ (52 + (q + 1074).toNat + j) ≤ z * 2 ^ j := by
        rw [e, Nat.pow_add, Nat.pow_add]
        exact Nat.mul_le_mul_right _ (Nat.mul_le_mul_right _ q3)
      have := (Nat.pow_lt_pow_iff_right (by decide : 1 < 2)).mp (Nat.lt_of_le_of_lt l1 hz)
      omega
  have v : FP.Core.val64 (FP.dmul a b) = FP.Core.round FP.Core.b64 (.fin s c (q + j)) := by
    rw [show FP.dmul a b = FP.Core.dmul a b from rfl, FP.Core.val64_dmul, h, P]
    show FP.Core.roundRatio FP.Core.b64 (s != false) (c * 2 ^ 52) 1 (q + ((j : Int) - 52)) = FP.Core.roundRatio FP.Core.b64 s c 1 (q + j)
    rw [show (s != false) = s by cases s <;> rfl]
    refine FP.Core.roundRatio_congr (by decide) (by decide) ?_
    rw [show (q + ((j : Int) - 52) - (q + j)).toNat = 0 by omega, show (q + j - (q + ((j : Int) - 52))).toNat = 52 by omega]
    simp
  obtain ⟨c', q', r1, r2⟩ := FP.Core.round_exact FP.Core.good_b64 s (c := c) (q := q + j) c1 (by rw [FP.Core.qmin_b64]; omega) (by rw [show FP.Core.b64.qmax = 971 from by decide +kernel]; exact hq)
  have D : DV (FP.dmul a b) s (z * 2 ^ j) := by
    refine ⟨c', q', v.trans r1, r2.trans ?_⟩
    unfold FP.Core.inUnits
    rw [FP.Core.qmin_b64, e, Nat.mul_assoc, ← Nat.pow_add]
    congr 2
    omega
  unfold fmul
  rw [cnD_nn D.nn]; exact D
theorem dvDiv2 (H : DV a s (v * 2 ^ j)) (P : P2 b j) : DV (fdiv a b) s v := by
  obtain ⟨c, q, h, c1, q1, q2, q3, e⟩ := H.fit
  have vv : FP.Core.val64 (FP.ddiv a b) = FP.Core.round FP.Core.b64 (.fin s c (q - j)) := by
    rw [show FP.ddiv a b = FP.Core.ddiv a b from rfl, FP.Core.val64_ddiv, h, P]
    unfold FP.Core.quotient
    simp only
    rw [if_neg (by decide), show (s != false) = s by cases s <;> rfl]
    refine FP.Core.roundRatio_congr (by decide) (by decide) ?_
    rw [show (q - ((j : Int) - 52) - (q - j)).toNat = 52 by omega, show (q - j - (q - ((j : Int) - 52))).toNat = 0 by omega]
    simp
  have D : DV (FP.ddiv a b) s v := by
    by_cases hq : -1074 ≤ q - j
    · obtain ⟨c', q', r1, r2⟩ := FP.Core.round_exact FP.Core.good_b64 s (c := c) (q := q - j) c1 (by rw [FP.Core.qmin_b64]; exact hq) (by rw [show FP.Core.b64.qmax = 971 from by decide +kernel]; omega)
      refine ⟨c', q', vv.trans r1, r2.trans ?_⟩
      unfold FP.Core.inUnits
      rw [FP.Core.qmin_b64]
      have e' : v * 2 ^ j = c * 2 ^ (q - j - -1074).toNat * 2 ^ j := by
        rw [e, Nat.mul_assoc, ← Nat.pow_add]
        congr 2
        omega
      exact (Nat.eq_of_mul_eq_mul_right (two_pos _) e').symm
    · have ec : c = v * 2 ^ (-1074 - (q - j)).toNat := by
        have e' : v * 2 ^ (-1074 - (q - j)).toNat * 2 ^ (q + 1074).toNat = c * 2 ^ (q + 1074).toNat := by
          rw [← e, Nat.mul_assoc, ← Nat.pow_add]
          congr 2
          omega
        exact (Nat.eq_of_mul_eq_mul_right (two_pos _) e').symm
      have v53 : v < 2 ^ 53 := Nat.lt_of_le_of_lt (by rw [ec]; exact Nat.le_mul_of_pos_right _ (two_pos _)) c1
      have v2 : FP.Core.round FP.Core.b64 (.fin s c (q - j)) = FP.Core.round FP.Core.b64 (.fin s v (-1074)) := by
        show FP.Core.roundRatio FP.Core.b64 s c 1 (q - j) = FP.Core.roundRatio FP.Core.b64 s v 1 (-1074)
        refine FP.Core.roundRatio_congr (by decide) (by decide) ?_
        rw [show (q - j - -1074).toNat = 0 by omega]
        simp only [Nat.mul_one, Nat.pow_zero]
        exact ec
      obtain ⟨c', q', r1, r2⟩ := FP.Core.round_exact FP.Core.good_b64 s (c := v) (q := -1074) v53 (by rw [FP.Core.qmin_b64]; omega) (by rw [show FP.Core.b64.qmax = 971 from by decide +kernel]; omega)
      refine ⟨c', q', vv.trans (v2.trans r1), r2.trans ?_⟩
      unfold FP.Core.inUnits
      rw [FP.Core.qmin_b64]
      simp
  unfold fdiv
  rw [cnD_nn D.nn]; exact D
theorem dvInj (H : DV a s z) (H2 : DV b s z) : a = b := by
  by_cases h0 : 0 < z
  · exact H.inj H2 h0
  · have hz : z = 0 := by omega
    subst hz
    obtain ⟨c, q, h, c1, q1, q2, q3, e⟩ := H.fit
    obtain ⟨c', q', h', c1', q1', q2', q3', e'⟩ := H2.fit
    have z1 : c = 0 := (Nat.mul_eq_zero.mp e.symm).resolve_right (Nat.ne_of_gt (two_pos _))
    have z2 : c' = 0 := (Nat.mul_eq_zero.mp e'.symm).resolve_right (Nat.ne_of_gt (two_pos _))
    subst z1 z2
    have x1 : q = -1074 := q3.resolve_right (by decide)
    have x2 : q' = -1074 := q3'.resolve_right (by decide)
    subst x1 x2
    exact FP.Core.val64_inj (by rw [h]; exact fun w => by cases w) (h.trans h'.symm)
theorem VV.mul2 {k : Nat} (H : VV a s z) (hk : k < 10) (hz : z * 2 ^ (2 ^ k) < 2 ^ 2098) : VV (fmul a (pw k)) s (z * 2 ^ (2 ^ k)) := by
  have := pk9 hk
  rcases H with ⟨h1, h2, h3⟩ | ⟨h1, h2⟩
  · subst h1 h2; exact Or.inl ⟨by simp, (zmul k hk).1, h3⟩
  · exact Or.inr ⟨Nat.mul_pos h1 (two_pos _), dvMul2 h2 (pw_P2 k hk) (by omega) hz⟩
theorem VV.div2 {k : Nat} (hk : k < 10) (H : VV a s (w * 2 ^ (2 ^ k))) : VV (fdiv a (pw k)) s w := by
  rcases H with ⟨h1, h2, h3⟩ | ⟨h1, h2⟩
  · have : w = 0 := by
      rcases Nat.mul_eq_zero.mp h1 with e | e
      · exact e
      · have := two_pos (2 ^ k); omega
    subst h2
    exact Or.inl ⟨this, (zmul k hk).2, h3⟩
  · have w0 : 0 < w := Nat.pos_of_ne_zero fun e => by rw [e, Nat.zero_mul] at h1; omega
    exact Or.inr ⟨w0, dvDiv2 h2 (pw_P2 k hk)⟩
end DRM
section JN2
variable {g : MT} {h : CT} {a P : Nat} {p1 : Int64} {p3 : Int32}
theorem jn_mul2 (Q : SpH g h a P) (hp : 0 ≤ p3) {s : Bool} : ∀ (m f r z : Nat) (l4 : UInt64), m ≤ 10 → m < f → r < 2 ^ m → VV l4 s z → z * 2 ^ r < 2 ^ 2098 → ∃ l', pX1_join_l20 g h a p1 p3 f l4 (nI r) (nI m + (-1)) = some l' ∧ VV l' s (z * 2 ^ r) := by
  obtain ⟨T, TP, LP, R2, hP⟩ := Q
  intro m
  induction m with
  | zero =>
    intro f r z l4 hm hf hr V hz
    obtain ⟨f, rfl⟩ : ∃ f', f = f' + 1 := ⟨f - 1, by omega⟩
    obtain rfl : r = 0 := by omega
    exact ⟨l4, by show pX1_join_b20 g h a p1 p3 (pX1_join_l20 g h a p1 p3 f) l4 _ _ = _; unfold pX1_join_b20; rw [if_pos (by decide)], by simpa using V⟩
  | succ k ih =>
    intro f r z l4 hm hf hr V hz
    obtain ⟨f, rfl⟩ : ∃ f', f = f' + 1 := ⟨f - 1, by omega⟩
    have hk : k < 10 := by omega
    have e2 := dec_k k hk
    have h9 := pk9 hk
    rw [Nat.pow_succ] at hr
    have skip : ∀ (f2 : Nat) (x : UInt64) (t q : Nat), q < 2 ^ k → t < 2 → pX1_join_l28 g h a p1 p3 (pX1_join_l20 g h a p1 p3 f) (f2 + 1) x (nI q) (nI k) (nI t) = pX1_join_l20 g h a p1 p3 f x (nI q) (nI k + (-1)) := fun f2 x t q hq ht => by
      show pX1_join_b28 g h a p1 p3 _ _ x (nI q) (nI k) (nI t) = _
      unfold pX1_join_b28 pX1_join_b87
      rw [if_neg (inc_k t ht).2, shl_n k hk, if_pos (nI_lt hq (by omega))]
      rfl
    have st : pX1_join_l20 g h a p1 p3 (f + 1) l4 (nI r) (nI (k + 1) + (-1)) = pX1_join_l28 g h a p1 p3 (pX1_join_l20 g h a p1 p3 f) FUEL l4 (nI r) (nI k) (nI 0) := by
      show pX1_join_b20 g h a p1 p3 (pX1_join_l20 g h a p1 p3 f) l4 _ _ = _
      unfold pX1_join_b20
      rw [e2.1, if_neg e2.2]
      rfl
    rw [st]
    by_cases c : r < 2 ^ k
    · rw [show FUEL = 4999 + 1 from rfl, skip 4999 l4 0 r c (by decide)]
      exact ih f r z l4 (by omega) (by omega) c V hz
    · have er : z * 2 ^ (2 ^ k) * 2 ^ (r - 2 ^ k) = z * 2 ^ r := by rw [Nat.mul_assoc, ← Nat.pow_add, show 2 ^ k + (r - 2 ^ k) = r by omega]
      have V' := V.mul2 hk (Nat.lt_of_le_of_lt (Nat.mul_le_mul_left _ (Nat.pow_le_pow_right (by decide) (Nat.not_lt.mp c))) hz)
      obtain ⟨l', q1, q2⟩ := ih f (r - 2 ^ k) _ _ (by omega) (by omega) (by omega) V' (by rw [er]; exact hz)
      refine ⟨l', ?_, by rw [er] at q2; exact q2⟩
      have e3 : nI r - nI (2 ^ k) = nI (r - 2 ^ k) := pk_sub (Nat.not_lt.mp c)
      have nlt : ¬ nI r < nI (2 ^ k) := fun x => c ((nI_ltI (by omega) (by omega)).mp x)
      show pX1_join_b28 g h a p1 p3 _ (pX1_join_l28 g h a p1 p3 (pX1_join_l20 g h a p1 p3 f) 4999) l4 (nI r) (nI k) (nI 0) = _
      unfold pX1_join_b28 pX1_join_b70
      rw [if_neg (by decide), shl_n k hk, if_neg nlt, if_pos hp]
      simp only [R2, w_lt, w_nn, w_tg TP, LP, w_ix hk (show 10 < 2 ^ 31 by decide), nI_clamp (show k < 2 ^ 31 by omega), hP k hk, e3]
      rw [show nI 0 + 1 = nI 1 from rfl, show (4999 : Nat) = 4998 + 1 from rfl, skip 4998 _ 1 _ (by omega) (by decide)]
      exact q1
theorem jn_div2 (Q : SpH g h a P) (hp : ¬ 0 ≤ p3) {s : Bool} {w : Nat} : ∀ (m f r : Nat) (l4 : UInt64), m ≤ 10 → m < f → r + 2 ≤ 2 * 2 ^ m → VV l4 s (w * 2 ^ r) → ∃ l', pX1_join_l20 g h a p1 p3 f l4 (nI r) (nI m + (-1)) = some l' ∧ VV l' s w := by
  obtain ⟨T, TP, LP, R2, hP⟩ := Q
  intro m
  induction m with
  | zero =>
    intro f r l4 hm hf hr V
    obtain ⟨f, rfl⟩ : ∃ f', f = f' + 1 := ⟨f - 1, by omega⟩
    obtain rfl : r = 0 := by omega
    exact ⟨l4, by show pX1_join_b20 g h a p1 p3 (pX1_join_l20 g h a p1 p3 f) l4 _ _ = _; unfold pX1_join_b20; rw [if_pos (by decide)], by simpa using V⟩
  | succ k ih =>
    intro f r l4 hm hf hr V
    obtain ⟨f, rfl⟩ : ∃ f', f = f' + 1 := ⟨f - 1, by omega⟩
    have hk : k < 10 := by omega
    have e2 := dec_k k hk
    have h9 := pk9 hk
    rw [Nat.pow_succ] at hr
    have skip : ∀ (f2 : Nat) (x : UInt64) (t q : Nat), q < 2 ^ k → t < 2 → pX1_join_l28 g h a p1 p3 (pX1_join_l20 g h a p1 p3 f) (f2 + 1) x (nI q) (nI k) (nI t) = pX1_join_l20 g h a p1 p3 f x (nI q) (nI k + (-1)) := fun f2 x t q hq ht => by
      show pX1_join_b28 g h a p1 p3 _ _ x (nI q) (nI k) (nI t) = _
      unfold pX1_join_b28 pX1_join_b87
      rw [if_neg (inc_k t ht).2, shl_n k hk, if_pos (nI_lt hq (by omega))]
      rfl
    have st : pX1_join_l20 g h a p1 p3 (f + 1) l4 (nI r) (nI (k + 1) + (-1)) = pX1_join_l28 g h a p1 p3 (pX1_join_l20 g h a p1 p3 f) FUEL l4 (nI r) (nI k) (nI 0) := by
      show pX1_join_b20 g h a p1 p3 (pX1_join_l20 g h a p1 p3 f) l4 _ _ = _
      unfold pX1_join_b20
      rw [e2.1, if_neg e2.2]
      rfl
    rw [st]
    by_cases c : r < 2 ^ k
    · rw [show FUEL = 4999 + 1 from rfl, skip 4999 l4 0 r c (by decide)]
      exact ih f r l4 (by omega) (by omega) (by have := two_pos k; omega) V
    · have one : ∀ (f2 q : Nat) (x : UInt64) (t : Nat), t < 2 → 2 ^ k ≤ q → q < 2 ^ 12 → pX1_join_l28 g h a p1 p3 (pX1_join_l20 g h a p1 p3 f) (f2 + 1) x (nI q) (nI k) (nI t) = pX1_join_l28 g h a p1 p3 (pX1_join_l20 g h a p1 p3 f) f2 (fdiv x (pw k)) (nI (q - 2 ^ k)) (nI k) (nI (t + 1)) := fun f2 q x t ht hq hq2 => by
        have e3 : nI q - nI (2 ^ k) = nI (q - 2 ^ k) := pk_sub hq
        have nlt : ¬ nI q < nI (2 ^ k) := fun x => (Nat.not_lt.mpr hq) ((nI_ltI (by omega) (by omega)).mp x)
        show pX1_join_b28 g h a p1 p3 _ (pX1_join_l28 g h a p1 p3 (pX1_join_l20 g h a p1 p3 f) f2) x (nI q) (nI k) (nI t) = _
        unfold pX1_join_b28 pX1_join_b70
        rw [if_neg (inc_k t ht).2, shl_n k hk, if_neg nlt, if_neg hp]
        simp only [R2, w_lt, w_nn, w_tg TP, LP, w_ix hk (show 10 < 2 ^ 31 by decide), nI_clamp (show k < 2 ^ 31 by omega), hP k hk, e3, (inc_k t ht).1]
      have m12 : 2 ^ (k + 1) ≤ 2 ^ 10 := Nat.pow_le_pow_right (by decide) (by omega)
      rw [Nat.pow_succ] at m12
      have er : w * 2 ^ r = w * 2 ^ (r - 2 ^ k) * 2 ^ (2 ^ k) := by rw [Nat.mul_assoc, ← Nat.pow_add, show r - 2 ^ k + 2 ^ k = r by omega]
      rw [er] at V
      have V' := VV.div2 hk V
      by_cases c2 : r - 2 ^ k < 2 ^ k
      · obtain ⟨l', q1, q2⟩ := ih f (r - 2 ^ k) _ (by omega) (by omega) (by omega) V'
        refine ⟨l', ?_, q2⟩
        rw [show FUEL = 4999 + 1 from rfl, one 4999 r l4 0 (by decide) (by omega) (by omega), show (4999 : Nat) = 4998 + 1 from rfl, skip 4998 _ (0 + 1) _ c2 (by decide)]
        exact q1
      · have er2 : w * 2 ^ (r - 2 ^ k) = w * 2 ^ (r - 2 ^ k - 2 ^ k) * 2 ^ (2 ^ k) := by rw [Nat.mul_assoc, ← Nat.pow_add, show r - 2 ^ k - 2 ^ k + 2 ^ k = r - 2 ^ k by omega]
        rw [er2] at V'
        have V'' := VV.div2 hk V'
        obtain ⟨l', q1, q2⟩ := ih f (r - 2 ^ k - 2 ^ k) _ (by omega) (by omega) (by omega) V''
        refine ⟨l', ?_, q2⟩
        have sk2 : ∀ (f2 : Nat) (x : UInt64) (q : Nat), pX1_join_l28 g h a p1 p3 (pX1_join_l20 g h a p1 p3 f) (f2 + 1) x (nI q) (nI k) (nI (0 + 1 + 1)) = pX1_join_l20 g h a p1 p3 f x (nI q) (nI k + (-1)) := fun f2 x q => by
          show pX1_join_b28 g h a p1 p3 _ _ x (nI q) (nI k) (nI (0 + 1 + 1)) = _
          unfold pX1_join_b28 pX1_join_b87
          rw [if_pos (by decide)]
          rfl
        rw [show FUEL = 4999 + 1 from rfl, one 4999 r l4 0 (by decide) (by omega) (by omega), show (4999 : Nat) = 4998 + 1 from rfl, one 4998 _ _ (0 + 1) (by decide) (by omega) (by omega), show (4998 : Nat) = 4997 + 1 from rfl, sk2]
        exact q1
end JN2
section SPL2
variable {g : MT} {h : CT} {a P : Nat} {p1 : UInt64}
theorem split_spec2 (Q : SpH g h a P) {s : Bool} {z : Nat} (D : DV p1 s z) (h0 : 0 < z) (hz : z < 2 ^ 2098) : ∃ e n : Int, ∃ c : Nat, n = FP.Core.signed s c ∧ c < 2 ^ 53 ∧ 2 ^ 52 ≤ c ∧ (∃ i j : Nat, z * 2 ^ i = c * 2 ^ j ∧ e = (j : Int) - i - 1074) ∧ ∃ l : Int64, l.toInt = n ∧ pX1_split g h a p1 = some (sL (sI h a 4 (Int32.ofInt e)) a 3 l) := by
  have T := Q.1
  have D0 : DV (if 0 ≤ KD p1 then p1 else fneg p1) false z := by
    cases s with
    | false => rw [if_pos ((KD_sg D h0).mpr rfl)]; exact D
    | true => rw [if_neg (fun x => by have := (KD_sg D h0).mp x; cases this)]; exact D.neg
  have hh : pX1_split g h a p1 = pX1_split_l22 g a p1 FUEL (if 0 ≤ KD p1 then p1 else fneg p1) (nI 10 + (-1)) (sI h a 4 (Int32.ofInt 0)) := by
    unfold pX1_split pX1_split_b12
    simp only [w_tg T, w_lt, fc_ge D.nn nn_0, kd_0]
    split <;> rfl
  obtain ⟨x, z1, j, r1, r2, r3, r4, r5⟩ := sp22 (p1 := p1) Q 10 FUEL z 0 _ (by decide) (by decide) D0 (fun x => by omega) (fun k hk => by
    obtain rfl : k = 9 := by omega
    refine Nat.le_trans ?_ (Nat.le_mul_of_pos_left _ h0)
    exact Nat.pow_le_pow_right (by decide) (by decide))
  obtain ⟨y, z2, i, s1, s2, s3, s4, s5⟩ := sp91 Q D.nn 10 FUEL z1 (0 - (j : Nat)) x (by decide) (by decide) r2 r4 (by
    rcases r3 with r3 | r3
    · rw [r3]; exact Nat.lt_of_lt_of_le hz (Nat.pow_le_pow_right (by decide) (by decide))
    · exact Nat.lt_of_lt_of_le r3 (Nat.pow_le_pow_right (by decide) (by decide)))
  obtain ⟨c, q, -, c1, q1, q2, q3, ez⟩ := s2.fit
  have hq : 1074 ≤ (q + 1074).toNat := by
    have : 2 ^ 1126 < 2 ^ (53 + (q + 1074).toNat) := by
      refine Nat.lt_of_le_of_lt s4 ?_
      rw [ez, Nat.pow_add]
      exact Nat.mul_lt_mul_of_pos_right c1 (two_pos _)
    have := (Nat.pow_lt_pow_iff_right (by decide : 1 < 2)).mp this
    omega
  have e1 : z2 = c * 2 ^ ((q + 1074).toNat - 1074) * FP.Core.one64 := by
    unfold FP.Core.one64
    rw [Nat.mul_assoc, ← Nat.pow_add, ez]
    congr 2
    omega
  generalize hn : c * 2 ^ ((q + 1074).toNat - 1074) = n at e1
  have ho : (0 : Nat) < FP.Core.one64 := two_pos _
  have n1 : n < 2 ^ 53 := by
    have : n * FP.Core.one64 < 2 ^ 53 * FP.Core.one64 := by
      rw [← e1]; unfold FP.Core.one64; rw [← Nat.pow_add]; exact s3
    exact Nat.lt_of_mul_lt_mul_right this
  have n0 : 2 ^ 52 ≤ n := by
    have : 2 ^ 52 * FP.Core.one64 ≤ n * FP.Core.one64 := by
      rw [← e1]; unfold FP.Core.one64; rw [← Nat.pow_add]; exact s4
    exact Nat.le_of_mul_le_mul_right this ho
  have dl : (FP.d2l y).toInt = (n : Int) := by
    rw [s2.d2l, e1, Nat.mul_div_cancel _ ho]
    unfold FP.Core.signed
    simp only [Bool.false_eq_true, if_false]
    omega
  refine ⟨0 - (j : Nat) + (i : Nat), FP.Core.signed s n, n, rfl, n1, n0, ⟨j, i + 1074, ?_, by omega⟩, _, ?_, by rw [hh, r1, show (9 : Int32) = nI 10 + (-1) from by decide, s1]⟩
  · rw [r5, ← s5, e1]
    unfold FP.Core.one64
    rw [Nat.mul_assoc, ← Nat.pow_add, Nat.add_comm 1074]
  · cases s with
    | false => rw [if_pos ((KD_sg D h0).mpr rfl), dl]; rfl
    | true =>
      rw [if_neg (fun x => by have := (KD_sg D h0).mp x; cases this), Int64.toInt_neg, dl]
      show Int.bmod _ _ = - (n : Int)
      rw [Int.bmod_eq_of_le (by omega) (by omega)]
end SPL2
