/-! a NUMBER made of an odd whole one and a power of 2: join, madeOf -/
def VV (a : UInt64) (s : Bool) (z : Nat) : Prop := (z = 0 ∧ a = 0 ∧ s = false) ∨ (0 < z ∧ DV a s z)
theorem pw0 : (4611686018427387904 : UInt64) = pw 0 := by decide +kernel
theorem zmul : ∀ k, k < 10 → fmul 0 (pw k) = 0 ∧ fdiv 0 (pw k) = 0 := by
  have h : ∀ k, k < 10 → FP.dmul 0 (pw k) = 0 ∧ FP.ddiv 0 (pw k) = 0 := by decide +kernel
  intro k hk
  obtain ⟨h1, h2⟩ := h k hk
  unfold fmul fdiv
  rw [h1, h2, cnD_nn nn_0]
  exact ⟨rfl, rfl⟩
theorem pk9 {k : Nat} (h : k < 10) : 2 ^ k ≤ 512 := (show 2 ^ k ≤ 2 ^ 9 from Nat.pow_le_pow_right (by decide) (by omega))
theorem VV.mul {a : UInt64} {s : Bool} {z k : Nat} (H : VV a s z) (hk : k < 10) (hz : z < 2 ^ (2045 - 2 ^ k)) : VV (fmul a (pw k)) s (z * 2 ^ (2 ^ k)) := by
  have := pk9 hk
  rcases H with ⟨h1, h2, h3⟩ | ⟨h1, h2⟩
  · subst h1 h2; exact Or.inl ⟨by simp, (zmul k hk).1, h3⟩
  · exact Or.inr ⟨Nat.mul_pos h1 (two_pos _), h2.fmul (pw_P2 k hk) (by omega) hz⟩
theorem VV.div {a : UInt64} {s : Bool} {w k : Nat} (hk : k < 10) (H : VV a s (w * 2 ^ (2 ^ k))) (hz : w = 0 ∨ 2 ^ 53 ≤ w) : VV (fdiv a (pw k)) s w := by
  rcases H with ⟨h1, h2, h3⟩ | ⟨h1, h2⟩
  · have : w = 0 := by
      rcases Nat.mul_eq_zero.mp h1 with e | e
      · exact e
      · have := two_pos (2 ^ k); omega
    subst h2
    exact Or.inl ⟨this, (zmul k hk).2, h3⟩
  · have w0 : 0 < w := Nat.pos_of_ne_zero fun e => by rw [e, Nat.zero_mul] at h1; omega
    obtain ⟨v, v1, v2⟩ := h2.fdiv (pw_P2 k hk) (by
      rw [Nat.pow_add]
      exact Nat.mul_le_mul_right _ (hz.resolve_left (by omega)))
    have : v = w := Nat.eq_of_mul_eq_mul_right (two_pos _) v2
    subst this
    exact Or.inr ⟨w0, v1⟩
theorem VV.uni {a b : UInt64} {s : Bool} {z : Nat} (H : VV a s z) (H2 : VV b s z) : a = b := by
  rcases H with ⟨h1, h2, h3⟩ | ⟨h1, h2⟩ <;> rcases H2 with ⟨g1, g2, g3⟩ | ⟨g1, g2⟩
  · rw [h2, g2]
  · omega
  · omega
  · exact h2.inj g2 h1
theorem VV.nn {a : UInt64} {s : Bool} {z : Nat} (H : VV a s z) : FP.dIsNaN a = false := by
  rcases H with ⟨h1, h2, h3⟩ | ⟨h1, h2⟩
  · rw [h2]; exact nn_0
  · exact h2.nn
theorem VV_long {n : Int64} (h : n.toInt.natAbs ≤ 2 ^ 53) : VV (fl2d n) (decide (n.toInt < 0)) (n.toInt.natAbs * FP.Core.one64) := by
  by_cases c : n = 0
  · subst c
    refine Or.inl ⟨by simp, by rw [fl2d_e]; decide +kernel, by decide⟩
  · have n0 : n.toInt ≠ 0 := fun e => c (Int64.toInt_inj.mp e)
    refine Or.inr ⟨Nat.mul_pos (by omega) (two_pos _), DV_long h _ ?_ (Or.inl c)⟩
    rw [sg_pos]
    by_cases q : n.toInt < 0
    · rw [if_pos (by simpa using q)]; omega
    · rw [if_neg (by simpa using q)]; omega
section JN
variable {g : MT} {h : CT} {a P : Nat} {p1 : Int64} {p3 : Int32}
theorem shl_n : ∀ k, k < 10 → (1 : Int32) <<< (nI k &&& 31) = nI (2 ^ k) := by decide +kernel
theorem jn_mul (Q : SpH g h a P) (hp : 0 ≤ p3) {s : Bool} : ∀ (m f r z : Nat) (l4 : UInt64), m ≤ 10 → m < f → r < 2 ^ m → VV l4 s z → z * 2 ^ r < 2 ^ 1500 → ∃ l', pX1_join_l20 g h a p1 p3 f l4 (nI r) (nI m + (-1)) = some l' ∧ VV l' s (z * 2 ^ r) := by
  obtain ⟨T, TP, LP, R2, hP⟩ := Q
  intro m
  induction m with
  | zero =>
    intro f r z l4 hm hf hr V hz
    obtain ⟨f, rfl⟩ : ∃ f', f = f' + 1 := ⟨f - 1, by omega⟩
    obtain rfl : r = 0 := by omega
    exact ⟨l4, by show pX1_join_b20 g h a p1 p3 (pX1_join_l20 g h a p1 p3 f) l4 _ _ = _; unfold pX1_join_b20; rw [if_pos (by decide)], by simpa using V⟩
  | succ k ih =>
    intro f r z l4 hm hf hr V hz
    obtain ⟨f, rfl⟩ : ∃ f', f = f' + 1 := ⟨f - 1, by omega⟩
    have hk : k < 10 := by omega
    have e2 := dec_k k hk
    have h9 := pk9 hk
    rw [Nat.pow_succ] at hr
    have skip : ∀ (f2 : Nat) (x : UInt64) (t q : Nat), q < 2 ^ k → t < 2 → pX1_join_l28 g h a p1 p3 (pX1_join_l20 g h a p1 p3 f) (f2 + 1) x (nI q) (nI k) (nI t) = pX1_join_l20 g h a p1 p3 f x (nI q) (nI k + (-1)) := fun f2 x t q hq ht => by
      show pX1_join_b28 g h a p1 p3 _ _ x (nI q) (nI k) (nI t) = _
      unfold pX1_join_b28 pX1_join_b87
      rw [if_neg (inc_k t ht).2, shl_n k hk, if_pos (nI_lt hq (by omega))]
      rfl
    have st : pX1_join_l20 g h a p1 p3 (f + 1) l4 (nI r) (nI (k + 1) + (-1)) = pX1_join_l28 g h a p1 p3 (pX1_join_l20 g h a p1 p3 f) FUEL l4 (nI r) (nI k) (nI 0) := by
      show pX1_join_b20 g h a p1 p3 (pX1_join_l20 g h a p1 p3 f) l4 _ _ = _
      unfold pX1_join_b20
      rw [e2.1, if_neg e2.2]
      rfl
    rw [st]
    by_cases c : r < 2 ^ k
    · rw [show FUEL = 4999 + 1 from rfl, skip 4999 l4 0 r c (by decide)]
      exact ih f r z l4 (by omega) (by omega) c V hz
    · have er : z * 2 ^ (2 ^ k) * 2 ^ (r - 2 ^ k) = z * 2 ^ r := by rw [Nat.mul_assoc, ← Nat.pow_add, show 2 ^ k + (r - 2 ^ k) = r by omega]
      have V' := V.mul hk (Nat.lt_of_le_of_lt (Nat.le_mul_of_pos_right _ (two_pos r)) (Nat.lt_of_lt_of_le hz (Nat.pow_le_pow_right (by decide) (by omega))))
      obtain ⟨l', q1, q2⟩ := ih f (r - 2 ^ k) _ _ (by omega) (by omega) (by omega) V' (by rw [er]; exact hz)
      refine ⟨l', ?_, by rw [er] at q2; exact q2⟩
      have e3 : nI r - nI (2 ^ k) = nI (r - 2 ^ k) := pk_sub (Nat.not_lt.mp c)
      have nlt : ¬ nI r < nI (2 ^ k) := fun x => c ((nI_ltI (by omega) (by omega)).mp x)
      show pX1_join_b28 g h a p1 p3 _ (pX1_join_l28 g h a p1 p3 (pX1_join_l20 g h a p1 p3 f) 4999) l4 (nI r) (nI k) (nI 0) = _
      unfold pX1_join_b28 pX1_join_b70
      rw [if_neg (by decide), shl_n k hk, if_neg nlt, if_pos hp]
      simp only [R2, w_lt, w_nn, w_tg TP, LP, w_ix hk (show 10 < 2 ^ 31 by decide), nI_clamp (show k < 2 ^ 31 by omega), hP k hk, e3]
      rw [show nI 0 + 1 = nI 1 from rfl, show (4999 : Nat) = 4998 + 1 from rfl, skip 4998 _ 1 _ (by omega) (by decide)]
      exact q1
theorem jn_div (Q : SpH g h a P) (hp : ¬ 0 ≤ p3) {s : Bool} {w : Nat} (hw : w = 0 ∨ 2 ^ 53 ≤ w) : ∀ (m f r : Nat) (l4 : UInt64), m ≤ 10 → m < f → r < 2 ^ m → VV l4 s (w * 2 ^ r) → ∃ l', pX1_join_l20 g h a p1 p3 f l4 (nI r) (nI m + (-1)) = some l' ∧ VV l' s w := by
  obtain ⟨T, TP, LP, R2, hP⟩ := Q
  intro m
  induction m with
  | zero =>
    intro f r l4 hm hf hr V
    obtain ⟨f, rfl⟩ : ∃ f', f = f' + 1 := ⟨f - 1, by omega⟩
    obtain rfl : r = 0 := by omega
    exact ⟨l4, by show pX1_join_b20 g h a p1 p3 (pX1_join_l20 g h a p1 p3 f) l4 _ _ = _; unfold pX1_join_b20; rw [if_pos (by decide)], by simpa using V⟩
  | succ k ih =>
    intro f r l4 hm hf hr V
    obtain ⟨f, rfl⟩ : ∃ f', f = f' + 1 := ⟨f - 1, by omega⟩
    have hk : k < 10 := by omega
    have e2 := dec_k k hk
    have h9 := pk9 hk
    rw [Nat.pow_succ] at hr
    have skip : ∀ (f2 : Nat) (x : UInt64) (t q : Nat), q < 2 ^ k → t < 2 → pX1_join_l28 g h a p1 p3 (pX1_join_l20 g h a p1 p3 f) (f2 + 1) x (nI q) (nI k) (nI t) = pX1_join_l20 g h a p1 p3 f x (nI q) (nI k + (-1)) := fun f2 x t q hq ht => by
      show pX1_join_b28 g h a p1 p3 _ _ x (nI q) (nI k) (nI t) = _
      unfold pX1_join_b28 pX1_join_b87
      rw [if_neg (inc_k t ht).2, shl_n k hk, if_pos (nI_lt hq (by omega))]
      rfl
    have st : pX1_join_l20 g h a p1 p3 (f + 1) l4 (nI r) (nI (k + 1) + (-1)) = pX1_join_l28 g h a p1 p3 (pX1_join_l20 g h a p1 p3 f) FUEL l4 (nI r) (nI k) (nI 0) := by
      show pX1_join_b20 g h a p1 p3 (pX1_join_l20 g h a p1 p3 f) l4 _ _ = _
      unfold pX1_join_b20
      rw [e2.1, if_neg e2.2]
      rfl
    rw [st]
    by_cases c : r < 2 ^ k
    · rw [show FUEL = 4999 + 1 from rfl, skip 4999 l4 0 r c (by decide)]
      exact ih f r l4 (by omega) (by omega) c V
    · have er : w * 2 ^ r = w * 2 ^ (r - 2 ^ k) * 2 ^ (2 ^ k) := by rw [Nat.mul_assoc, ← Nat.pow_add, show r - 2 ^ k + 2 ^ k = r by omega]
      rw [er] at V
      have V' := VV.div hk V (hw.elim (fun e => Or.inl (by rw [e, Nat.zero_mul])) fun e => Or.inr (Nat.le_trans e (Nat.le_mul_of_pos_right _ (two_pos _))))
      obtain ⟨l', q1, q2⟩ := ih f (r - 2 ^ k) _ (by omega) (by omega) (by omega) V'
      refine ⟨l', ?_, q2⟩
      have e3 : nI r - nI (2 ^ k) = nI (r - 2 ^ k) := pk_sub (Nat.not_lt.mp c)
      have nlt : ¬ nI r < nI (2 ^ k) := fun x => c ((nI_ltI (by omega) (by omega)).mp x)
      show pX1_join_b28 g h a p1 p3 _ (pX1_join_l28 g h a p1 p3 (pX1_join_l20 g h a p1 p3 f) 4999) l4 (nI r) (nI k) (nI 0) = _
      unfold pX1_join_b28 pX1_join_b70
      rw [if_neg (by decide), shl_n k hk, if_neg nlt, if_neg hp]
      simp only [R2, w_lt, w_nn, w_tg TP, LP, w_ix hk (show 10 < 2 ^ 31 by decide), nI_clamp (show k < 2 ^ 31 by omega), hP k hk, e3]
      rw [show nI 0 + 1 = nI 1 from rfl, show (4999 : Nat) = 4998 + 1 from rfl, skip 4998 _ 1 _ (by omega) (by decide)]
      exact q1
theorem two_p0 : (2 : Nat) ^ (2 ^ 0) = 2 := rfl
theorem mo_up : ∀ (d f i : Nat) (z : Nat) (l3 : UInt64) (s : Bool), i + d ≤ 200 → d < f → VV l3 s z → z * 2 ^ d < 2 ^ 1500 → ∃ l', pX13_madeOf_l6 g h p1 (nI (i + d)) f l3 (nI i) = pX13_madeOf_l27 g h p1 (nI (i + d)) FUEL l' 0 ∧ VV l' s (z * 2 ^ d) := by
  intro d
  induction d with
  | zero =>
    intro f i z l3 s hi hf V hz
    obtain ⟨f, rfl⟩ : ∃ f', f = f' + 1 := ⟨f - 1, by omega⟩
    refine ⟨l3, ?_, by simpa using V⟩
    show pX13_madeOf_b6 g h p1 _ (pX13_madeOf_l6 g h p1 _ f) l3 _ = _
    unfold pX13_madeOf_b6
    rw [Nat.add_zero, if_pos (nI_le (by omega) (by omega))]
  | succ d ih =>
    intro f i z l3 s hi hf V hz
    obtain ⟨f, rfl⟩ : ∃ f', f = f' + 1 := ⟨f - 1, by omega⟩
    have V' := V.mul (k := 0) (by decide) (Nat.lt_of_le_of_lt (Nat.le_mul_of_pos_right _ (two_pos (d + 1))) (Nat.lt_of_lt_of_le hz (Nat.pow_le_pow_right (by decide) (by decide))))
    have ez : z * 2 ^ 2 ^ 0 * 2 ^ d = z * 2 ^ (d + 1) := by rw [two_p0, Nat.mul_assoc, Nat.pow_succ, Nat.mul_comm 2]
    obtain ⟨l', q1, q2⟩ := ih f (i + 1) _ _ s (by omega) (by omega) V' (by rw [ez]; exact hz)
    rw [ez] at q2
    refine ⟨l', ?_, q2⟩
    show pX13_madeOf_b6 g h p1 _ (pX13_madeOf_l6 g h p1 _ f) l3 _ = _
    unfold pX13_madeOf_b6
    rw [if_neg (Int32.not_le.mpr (nI_lt (by omega) (by omega))), w_lt, w_lt, pw0, show nI i + 1 = nI (i + 1) from nI_add i 1]
    rw [show i + (d + 1) = i + 1 + d by omega]
    exact q1
theorem ofI_le (i e : Nat) (h1 : i ≤ 300) (h2 : e ≤ 300) : (Int32.ofInt (-(i : Int)) ≤ Int32.ofInt (-(e : Int))) ↔ e ≤ i := by
  rw [Int32.le_iff_toInt_le, Int32.toInt_ofInt_of_le (by omega) (by omega), Int32.toInt_ofInt_of_le (by omega) (by omega)]
  omega
theorem mo_dn : ∀ (d f i : Nat) (w : Nat) (l3 : UInt64) (s : Bool), i + d ≤ 200 → d < f → VV l3 s (w * 2 ^ d) → (w = 0 ∨ 2 ^ 53 ≤ w) → ∃ l', pX13_madeOf_l27 g h p1 (Int32.ofInt (-((i + d : Nat) : Int))) f l3 (Int32.ofInt (-(i : Int))) = some l' ∧ VV l' s w := by
  intro d
  induction d with
  | zero =>
    intro f i w l3 s hi hf V hw
    obtain ⟨f, rfl⟩ : ∃ f', f = f' + 1 := ⟨f - 1, by omega⟩
    refine ⟨l3, ?_, by simpa using V⟩
    show pX13_madeOf_b27 g h p1 _ (pX13_madeOf_l27 g h p1 _ f) l3 _ = _
    unfold pX13_madeOf_b27
    rw [if_pos ((ofI_le _ _ (by omega) (by omega)).mpr (by omega))]
  | succ d ih =>
    intro f i w l3 s hi hf V hw
    obtain ⟨f, rfl⟩ : ∃ f', f = f' + 1 := ⟨f - 1, by omega⟩
    have ez : w * 2 ^ (d + 1) = w * 2 ^ d * 2 ^ (2 ^ 0) := by rw [two_p0, Nat.pow_succ, Nat.mul_assoc]
    rw [ez] at V
    have V' := VV.div (k := 0) (by decide) V (hw.elim (fun e => Or.inl (by rw [e, Nat.zero_mul])) fun e => Or.inr (Nat.le_trans e (Nat.le_mul_of_pos_right _ (two_pos _))))
    obtain ⟨l', q1, q2⟩ := ih f (i + 1) w _ s (by omega) (by omega) V' hw
    refine ⟨l', ?_, q2⟩
    show pX13_madeOf_b27 g h p1 _ (pX13_madeOf_l27 g h p1 _ f) l3 _ = _
    unfold pX13_madeOf_b27
    rw [if_neg (fun x => by have := (ofI_le _ _ (by omega) (by omega)).mp x; omega), w_lt, w_lt, pw0, ofI_dec, show -(i : Int) - 1 = -((i + 1 : Nat) : Int) by omega]
    rw [show i + (d + 1) = i + 1 + d by omega]
    exact q1
/-- both make the same number -/
theorem made (Q : SpH g h a P) {g' : MT} {h' : CT} (hn : p1.toInt.natAbs ≤ 2 ^ 53) (he : -200 ≤ p3.toInt ∧ p3.toInt ≤ 200) : ∃ x, pX1_join g h a p1 p3 = some x ∧ pX13_madeOf g' h' p1 p3 = some x ∧ FP.dIsNaN x = false := by
  have V := VV_long hn
  have p3e : p3 = Int32.ofInt p3.toInt := (Int32.ofInt_toInt p3).symm
  by_cases c : 0 ≤ p3
  · have c' : 0 ≤ p3.toInt := Int32.le_iff_toInt_le.mp c
    have e1 : p3 = nI p3.toInt.toNat := by
      refine Int32.toInt_inj.mp ?_
      rw [nI_toInt (by omega)]; omega
    generalize he' : p3.toInt.toNat = e at e1
    have e2 : e ≤ 200 := by omega
    subst e1
    have bd : p1.toInt.natAbs * FP.Core.one64 * 2 ^ e < 2 ^ 1500 := by
      calc p1.toInt.natAbs * FP.Core.one64 * 2 ^ e ≤ 2 ^ 53 * 2 ^ 1074 * 2 ^ 200 := Nat.mul_le_mul (Nat.mul_le_mul hn (Nat.le_refl _)) (Nat.pow_le_pow_right (by decide) e2)
        _ < 2 ^ 1500 := by rw [← Nat.pow_add, ← Nat.pow_add]; exact Nat.pow_lt_pow_right (by decide) (by decide)
    obtain ⟨x, x1, x2⟩ := jn_mul (p1 := p1) Q c 10 FUEL e _ _ (by decide) (by decide) (Nat.lt_of_le_of_lt e2 (by decide)) V bd
    obtain ⟨y, y1, y2⟩ := mo_up (g := g') (h := h') (p1 := p1) e FUEL 0 _ _ _ (by omega) (Nat.lt_of_le_of_lt e2 (by decide)) V bd
    refine ⟨x, ?_, ?_, x2.nn⟩
    · unfold pX1_join pX1_join_b14
      rw [w_tg Q.1, w_lt, if_pos c]
      exact x1
    · unfold pX13_madeOf
      rw [w_lt]
      rw [Nat.zero_add] at y1
      refine y1.trans ?_
      rw [y2.uni x2]
      show pX13_madeOf_b27 g' h' p1 _ (pX13_madeOf_l27 g' h' p1 _ 4999) x _ = _
      unfold pX13_madeOf_b27
      rw [if_pos c]
  · have c' : ¬ 0 ≤ p3.toInt := fun x => c (Int32.le_iff_toInt_le.mpr x)
    have e1 : p3 = Int32.ofInt (-((-p3.toInt).toNat : Int)) := by
      rw [show -((-p3.toInt).toNat : Int) = p3.toInt by omega]; exact p3e
    generalize he' : (-p3.toInt).toNat = e at e1
    have e2 : e ≤ 200 := by omega
    have en : -p3 = nI e := by
      refine Int32.toInt_inj.mp ?_
      rw [nI_toInt (by omega), Int32.toInt_neg, Int.bmod_eq_of_le (by omega) (by omega)]
      omega
    have ew : p1.toInt.natAbs * FP.Core.one64 = p1.toInt.natAbs * 2 ^ (1074 - e) * 2 ^ e := by
      unfold FP.Core.one64
      rw [Nat.mul_assoc, ← Nat.pow_add, show 1074 - e + e = 1074 by omega]
    have hw : p1.toInt.natAbs * 2 ^ (1074 - e) = 0 ∨ 2 ^ 53 ≤ p1.toInt.natAbs * 2 ^ (1074 - e) := by
      rcases Nat.eq_zero_or_pos p1.toInt.natAbs with z | z
      · left; rw [z, Nat.zero_mul]
      · right
        exact Nat.le_trans (Nat.pow_le_pow_right (by decide) (by omega)) (Nat.le_mul_of_pos_left _ z)
    rw [ew] at V
    obtain ⟨x, x1, x2⟩ := jn_div (p1 := p1) Q c hw 10 FUEL e _ (by decide) (by decide) (Nat.lt_of_le_of_lt e2 (by decide)) V
    obtain ⟨y, y1, y2⟩ := mo_dn (g := g') (h := h') (p1 := p1) e FUEL 0 _ _ _ (by omega) (Nat.lt_of_le_of_lt e2 (by decide)) V hw
    refine ⟨x, ?_, ?_, x2.nn⟩
    · unfold pX1_join pX1_join_b14
      rw [w_tg Q.1, w_lt, if_neg c, en]
      exact x1
    · unfold pX13_madeOf
      rw [w_lt]
      rw [Nat.zero_add, ← e1] at y1
      show pX13_madeOf_b6 g' h' p1 p3 (pX13_madeOf_l6 g' h' p1 p3 4999) _ 0 = _
      unfold pX13_madeOf_b6
      rw [if_pos (Int32.le_iff_toInt_le.mpr (by show p3.toInt ≤ 0; omega))]
      rw [← y2.uni x2]
      exact y1
end JN
