/-! NUMBERS side by side: a row at a, its values at a + 1, its marks at a + 2 -/
def RowA (g : MT) (r : Nat → Nat → Option Nat) (a n : Nat) : Prop := gT g a = 7 ∧ r a 0 = some (a + 1) ∧ r a 1 = some (a + 2) ∧ gT g (a + 1) = 22 ∧ gL g (a + 1) = n ∧ gT g (a + 2) = 24 ∧ gL g (a + 2) = n
/-- what is left: all but the cells a and b -/
def But2 (a b : Nat) (h h' : CT) : Prop := hR h' = hR h ∧ ∀ x, x ≠ a → x ≠ b → Eqa h h' x
theorem But2.rf (a b : Nat) (h : CT) : But2 a b h h := ⟨rfl, fun x _ _ => Eqa.rf h x⟩
theorem But2.tr {a b : Nat} {h h1 h2 : CT} (x : But2 a b h h1) (y : But2 a b h1 h2) : But2 a b h h2 := ⟨y.1.trans x.1, fun z q1 q2 => (x.2 z q1 q2).tr (y.2 z q1 q2)⟩
section ROW
variable {g : MT} {h : CT} {a b n p i : Nat}
theorem row_fetch (R : RowA g (hR h) a n) (T : gT g p = 4) (hi : i < n) (hn : n ≤ 64) (hb : is01 (hI h (a + 2) i)) : pX8_fetch g h a (nI i) p = some (numW h p (hD h (a + 1) i) (hI h (a + 2) i)) := by
  obtain ⟨t1, r1, r2, t2, l2, t3, l3⟩ := R
  have c1 : ¬ nI i < 0 := nI_pos (by omega)
  have c2 : ¬ Int32.ofNat n ≤ nI i := nI_ge hi (by omega)
  unfold pX8_fetch
  simp only [w_tg t1, w_lt, r1, r2, w_nn, w_tg t2, l2, w_tg t3, l3, w_tg T, hR_sD, hI_sD, w_ix hi (show n < 2 ^ 31 by omega), nI_clamp (show i < 2 ^ 31 by omega), w_bz hb]
  rw [if_neg c1, if_neg c2, if_neg c2]
  rfl
theorem row_keep (R : RowA g (hR h) a n) (T : gT g p = 4) (hi : i < n) (hn : n ≤ 64) (hb : is01 (hI h p 1)) : pX8_keep g h a (nI i) p = some (sI (sD h (a + 1) i (hD h p 0)) (a + 2) i (hI h p 1)) := by
  obtain ⟨t1, r1, r2, t2, l2, t3, l3⟩ := R
  have c1 : ¬ nI i < 0 := nI_pos (by omega)
  have c2 : ¬ Int32.ofNat n ≤ nI i := nI_ge hi (by omega)
  unfold pX8_keep
  simp only [w_tg t1, w_lt, r1, r2, w_nn, w_tg t2, l2, w_tg t3, l3, w_tg T, hR_sD, hI_sD, w_ix hi (show n < 2 ^ 31 by omega), nI_clamp (show i < 2 ^ 31 by omega), nar_bool hb]
  rw [if_neg c1, if_neg c2, if_neg c2]
theorem row_clear_l (R : RowA g (hR h) a n) (hn : n ≤ 64) : ∀ (d j f : Nat) (h1 : CT), j + d = n → d < f → hR h1 = hR h → ∃ h', pX8_clear_l2 g a f (nI j) h1 = some h' ∧ But2 (a + 1) (a + 2) h1 h' ∧ (∀ i, i < j → hD h' (a + 1) i = hD h1 (a + 1) i ∧ hI h' (a + 2) i = hI h1 (a + 2) i) ∧ ∀ i, j ≤ i → i < n → hD h' (a + 1) i = 0 ∧ hI h' (a + 2) i = 0 := by
  obtain ⟨t1, r1, r2, t2, l2, t3, l3⟩ := R
  intro d
  induction d with
  | zero =>
    intro j f h1 e1 e2 e3
    obtain ⟨f, rfl⟩ : ∃ f', f = f' + 1 := ⟨f - 1, by omega⟩
    have c2 : Int32.ofNat n ≤ nI j := nI_le (by omega) (by omega)
    refine ⟨h1, ?_, But2.rf _ _ _, fun i _ => ⟨rfl, rfl⟩, fun i q1 q2 => by omega⟩
    rw [pX8_clear_l2, pX8_clear_b2, e3]
    simp only [w_lt, r1, w_nn, w_tg t2, l2]
    rw [if_pos c2]
  | succ d ih =>
    intro j f h1 e1 e2 e3
    obtain ⟨f, rfl⟩ : ∃ f', f = f' + 1 := ⟨f - 1, by omega⟩
    have hj : j < n := by omega
    have c2 : ¬ Int32.ofNat n ≤ nI j := nI_ge hj (by omega)
    obtain ⟨h', q1, q2, q3, q4⟩ := ih (j + 1) f (sI (sD h1 (a + 1) j 0) (a + 2) j 0) (by omega) (by omega) e3
    refine ⟨h', ?_, But2.tr (h1 := sI (sD h1 (a + 1) j 0) (a + 2) j 0) ⟨rfl, fun x z1 z2 => ((Eqa.rf h1 x).sD z1).sI z2⟩ q2, fun i hi => ?_, fun i z1 z2 => ?_⟩
    · rw [pX8_clear_l2, pX8_clear_b2]
      have e4 : hR (sD h1 (a + 1) j 0) = hR h := e3
      simp only [w_lt, e3, e4, r1, r2, w_nn, w_tg t2, l2, w_tg t3, l3, w_ix hj (show n < 2 ^ 31 by omega), nI_clamp (show j < 2 ^ 31 by omega), nar_bool is01_0]
      rw [if_neg c2, if_neg c2, nI_1]
      exact q1
    · obtain ⟨w1, w2⟩ := q3 i (by omega)
      rw [w1, w2, hD_sI, hD_sD, if_pos rfl, ud_n (by omega), hI_sI, if_pos rfl, ud_n (by omega), hI_sD]
      exact ⟨rfl, rfl⟩
    · by_cases e : i = j
      · subst e
        obtain ⟨w1, w2⟩ := q3 i (by omega)
        rw [w1, w2, hD_sI, hD_sD, if_pos rfl, ud_s, hI_sI, if_pos rfl, ud_s]
        exact ⟨rfl, rfl⟩
      · exact q4 i (by omega) z2
theorem row_clear (R : RowA g (hR h) a n) (hn : n ≤ 64) : ∃ h', pX8_clear g h a = some h' ∧ But2 (a + 1) (a + 2) h h' ∧ ∀ i, i < n → hD h' (a + 1) i = 0 ∧ hI h' (a + 2) i = 0 := by
  obtain ⟨h', q1, q2, -, q4⟩ := row_clear_l R hn n 0 FUEL h (by omega) (by unfold FUEL; omega) rfl
  refine ⟨h', ?_, q2, fun i hi => q4 i (by omega) hi⟩
  unfold pX8_clear
  rw [w_tg R.1]
  exact q1
theorem row_copy_l (R : RowA g (hR h) a n) (R2 : RowA g (hR h) b n) (hab : a ≠ b) (hn : n ≤ 64) (hb : ∀ i, i < n → is01 (hI h (b + 2) i)) : ∀ (d j f : Nat) (h1 : CT), j + d = n → d < f → hR h1 = hR h → hI h1 (b + 2) = hI h (b + 2) → ∃ h', pX8_copyFrom_l28 g a b f (nI j) h1 = some h' ∧ (hR h' = hR h1 ∧ ∀ x, x ≠ a + 2 → Eqa h1 h' x) ∧ (hD h' = hD h1) ∧ (∀ i, i < j → hI h' (a + 2) i = hI h1 (a + 2) i) ∧ ∀ i, j ≤ i → i < n → hI h' (a + 2) i = hI h (b + 2) i := by
  obtain ⟨t1, r1, r2, t2, l2, t3, l3⟩ := R
  obtain ⟨s1, u1, u2, s2, m2, s3, m3⟩ := R2
  intro d
  induction d with
  | zero =>
    intro j f h1 e1 e2 e3 e4
    obtain ⟨f, rfl⟩ : ∃ f', f = f' + 1 := ⟨f - 1, by omega⟩
    have c2 : Int32.ofNat n ≤ nI j := nI_le (by omega) (by omega)
    refine ⟨h1, ?_, ⟨rfl, fun x _ => Eqa.rf h1 x⟩, rfl, fun i _ => rfl, fun i q1 q2 => by omega⟩
    rw [pX8_copyFrom_l28, pX8_copyFrom_b28, e3]
    simp only [w_lt, r2, w_nn, w_tg t3, l3]
    rw [if_pos c2]
  | succ d ih =>
    intro j f h1 e1 e2 e3 e4
    obtain ⟨f, rfl⟩ : ∃ f', f = f' + 1 := ⟨f - 1, by omega⟩
    have hj : j < n := by omega
    have c2 : ¬ Int32.ofNat n ≤ nI j := nI_ge hj (by omega)
    have hne : b + 2 ≠ a + 2 := by omega
    obtain ⟨h', q1, ⟨q2, q2'⟩, q5, q3, q4⟩ := ih (j + 1) f (sI h1 (a + 2) j (hI h (b + 2) j)) (by omega) (by omega) e3 (by rw [hI_sI, if_neg hne]; exact e4)
    refine ⟨h', ?_, ⟨q2, fun x z => ((Eqa.rf h1 x).sI z).tr (q2' x z)⟩, q5, fun i hi => ?_, fun i z1 z2 => ?_⟩
    · rw [pX8_copyFrom_l28, pX8_copyFrom_b28]
      simp only [w_lt, e3, e4, r2, u2, w_nn, w_tg t3, l3, w_tg s1, w_tg s3, m3, w_ix hj (show n < 2 ^ 31 by omega), nI_clamp (show j < 2 ^ 31 by omega), nar_bool (hb j hj)]
      rw [if_neg c2, if_neg c2, nI_1]
      exact q1
    · rw [q3 i (by omega), hI_sI, if_pos rfl, ud_n (by omega)]
    · by_cases e : i = j
      · subst e
        rw [q3 i (by omega), hI_sI, if_pos rfl, ud_s]
      · exact q4 i (by omega) z2
theorem min_nI (x : Int32) : pJ9_min_7cf53 x x = x := by
  unfold pJ9_min_7cf53
  split <;> rfl
theorem row_copy (R : RowA g (hR h) a n) (R2 : RowA g (hR h) b n) (hab : a ≠ b) (hn : n ≤ 64) (hb : ∀ i, i < n → is01 (hI h (b + 2) i)) : ∃ h', pX8_copyFrom g h a b = some h' ∧ But2 (a + 1) (a + 2) h h' ∧ ∀ i, i < n → hD h' (a + 1) i = hD h (b + 1) i ∧ hI h' (a + 2) i = hI h (b + 2) i := by
  obtain ⟨h', q1, ⟨q2, q2'⟩, q5, -, q4⟩ := row_copy_l R R2 hab hn hb n 0 FUEL (cpD h (b + 1) (a + 1) 0 0 n) (by omega) (by unfold FUEL; omega) rfl rfl
  refine ⟨h', ?_, ⟨q2, fun x z1 z2 => ((Eqa.rf h x).cpD z1).tr (q2' x z2)⟩, fun i hi => ⟨?_, q4 i (by omega) hi⟩⟩
  · obtain ⟨t1, r1, r2, t2, l2, t3, l3⟩ := R
    obtain ⟨s1, u1, u2, s2, m2, s3, m3⟩ := R2
    have cc : (nI n).toNatClampNeg = n := nI_clamp (by omega)
    unfold pX8_copyFrom
    simp only [w_tg t1, w_tg s1, w_lt, r1, u1, w_nn, w_tg t2, w_tg s2, l2, m2, min_nI]
    unfold cpk
    rw [if_pos ⟨by decide, by decide, nI_pos (by omega), by rw [show (Int32.ofNat n).toNatClampNeg = n from cc]; exact Nat.le_of_eq (Nat.zero_add n), by rw [show (Int32.ofNat n).toNatClampNeg = n from cc]; exact Nat.le_of_eq (Nat.zero_add n)⟩]
    rw [show (Int32.ofNat n).toNatClampNeg = n from cc]
    exact q1
  · rw [q5, hD_cpD, if_pos rfl]
    exact (pk_cpy_in (Nat.zero_le i) (by omega)).trans (by rw [Nat.sub_zero, Nat.zero_add])
end ROW
/-- what a row read is, if the reference's is alike -/
theorem RowR.num {n : Nat} {v : Nat → UInt64} {o : Nat → Int32} {x : Nat → UInt64} {b i : Nat} (H : RowR n v o x b) (hi : i < n) : NumR (v i) (o i) (x (b + i)) := H i hi
