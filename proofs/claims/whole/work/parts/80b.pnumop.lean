/-! NUMBERS: what the class's operations on one do, and that the reference's double follows -/
def numW (h : CT) (a : Nat) (v : UInt64) (o : Int32) : CT := sI (sD h a 0 v) a 1 o
theorem sI_id {h : CT} {a k : Nat} {x : Int32} (e : hI h a k = x) : sI h a k x = h := by
  subst e
  have : up2 h.1 a k (hI h a k) = h.1 := by
    funext b j
    unfold up2
    split
    · rename_i z; rw [z.1, z.2]; rfl
    · rfl
  show (up2 h.1 a k (hI h a k), h.2.1, h.2.2.1, h.2.2.2) = h
  rw [this]
theorem sD_id {h : CT} {a k : Nat} {x : UInt64} (e : hD h a k = x) : sD h a k x = h := by
  subst e
  have : up2 h.2.2.1 a k (hD h a k) = h.2.2.1 := by
    funext b j
    unfold up2
    split
    · rename_i z; rw [z.1, z.2]; rfl
    · rfl
  show (h.1, h.2.1, up2 h.2.2.1 a k (hD h a k), h.2.2.2) = h
  rw [this]
theorem numW_o {h : CT} {a : Nat} {v : UInt64} {o : Int32} (e : hI h a 1 = o) : numW h a v o = sD h a 0 v := sI_id (h := sD h a 0 v) e
theorem numW_id {h : CT} {a : Nat} {v : UInt64} {o : Int32} (e : hI h a 1 = o) (e2 : hD h a 0 = v) : numW h a v o = h := by rw [numW_o e, sD_id e2]
theorem NumR.x0 {v x : UInt64} {o : Int32} (H : NumR v o x) (h : o = 0) : x = v := H.2.2.trans (if_pos h)
theorem NumR.x1 {v x : UInt64} {o : Int32} (H : NumR v o x) (h : ¬ o = 0) : x = NaNc := H.2.2.trans (if_neg h)
theorem NumR_nan : NumR 0 1 NaNc := ⟨is01_1, nn_0, by rw [if_neg (by decide)]⟩
theorem NumR_ok {z : UInt64} (h : FP.dIsNaN z = false) : NumR z 0 z := ⟨is01_0, h, by rw [if_pos rfl]⟩
theorem NumR.isN {v x : UInt64} {o : Int32} (H : NumR v o x) : FP.dIsNaN x = true ↔ o = 1 := by
  rcases H.1 with e | e
  · rw [H.x0 e, H.2.1, e]; exact ⟨fun z => (by cases z), fun z => absurd z (by decide)⟩
  · rw [H.x1 (by rw [e]; decide), e]; exact ⟨fun _ => rfl, fun _ => NaNc_nan⟩
section NOP
variable {g : MT} {h : CT} {a b : Nat}
theorem n_set (T : gT g a = 4) (x : UInt64) : pX4_set g h a x = some (numW h a x 0) := by unfold pX4_set; rw [w_tg T]; rfl
theorem n_setOdd (T : gT g a = 4) : pX4_setOdd g h a = some (numW h a 0 1) := by unfold pX4_setOdd; rw [w_tg T]; rfl
theorem n_takesOdd (T : gT g a = 4) (T2 : gT g b = 4) : pX4_takesOdd g h a b = some (if hI h a 1 = 0 ∧ hI h b 1 = 0 then (0, h) else (1, numW h a 0 1)) := by
  have h14 : pX4_takesOdd_b14 g a b h = some (1, numW h a 0 1) := by
    unfold pX4_takesOdd_b14
    simp only [w_lt]
    rw [show hI (sI (sD h a 0 0) a 1 1) a 1 = 1 from hI_s _ _ _ _]
    rfl
  unfold pX4_takesOdd
  rw [w_tg T]
  by_cases c1 : hI h a 1 = 0
  · rw [if_pos c1, w_tg T2]
    by_cases c2 : hI h b 1 = 0
    · rw [if_pos c2, if_pos ⟨c1, c2⟩, c1]; rfl
    · rw [if_neg c2, if_neg (fun z => c2 z.2)]; exact h14
  · rw [if_neg c1, if_neg (fun z => c1 z.1)]; exact h14
def nPlus (v : UInt64) (o : Int32) (w : UInt64) (p : Int32) : UInt64 × Int32 := if o = 0 ∧ p = 0 then (if isInf v ∧ KD v = -KD w then (0, 1) else (fadd v w, 0)) else (0, 1)
def nMinus (v : UInt64) (o : Int32) (w : UInt64) (p : Int32) : UInt64 × Int32 := if o = 0 ∧ p = 0 then (if isInf v ∧ KD v = KD w then (0, 1) else (fsub v w, 0)) else (0, 1)
def nTimes (v : UInt64) (o : Int32) (w : UInt64) (p : Int32) : UInt64 × Int32 := if o = 0 ∧ p = 0 then (if (KD v = 0 ∧ isInf w) ∨ (isInf v ∧ KD w = 0) then (0, 1) else (fmul v w, 0)) else (0, 1)
def nOver (v : UInt64) (o : Int32) (w : UInt64) (p : Int32) : UInt64 × Int32 := if o = 0 ∧ p = 0 then (if (KD v = 0 ∧ KD w = 0) ∨ (isInf v ∧ isInf w) then (0, 1) else (fdiv v w, 0)) else (0, 1)
def nLeast (v : UInt64) (o : Int32) (w : UInt64) (p : Int32) : UInt64 × Int32 := if o = 0 ∧ p = 0 then (if KD w < KD v ∨ (w = 9223372036854775808 ∧ KD v = 0) then (w, 0) else (v, 0)) else (0, 1)
def nMost (v : UInt64) (o : Int32) (w : UInt64) (p : Int32) : UInt64 × Int32 := if o = 0 ∧ p = 0 then (if KD v < KD w ∨ (v = 9223372036854775808 ∧ KD w = 0) then (w, 0) else (v, 0)) else (0, 1)
theorem n_plus (T : gT g a = 4) (T2 : gT g b = 4) (n1 : FP.dIsNaN (hD h a 0) = false) (n2 : FP.dIsNaN (hD h b 0) = false) : pX4_plus g h a b = some (numW h a (nPlus (hD h a 0) (hI h a 1) (hD h b 0) (hI h b 1)).1 (nPlus (hD h a 0) (hI h a 1) (hD h b 0) (hI h b 1)).2) := by
  unfold pX4_plus pX4_plus_b39 nPlus
  rw [n_takesOdd T T2, w_tg T]
  by_cases c : hI h a 1 = 0 ∧ hI h b 1 = 0
  · simp only [if_pos c, w_bd2, if_true, isInf_0 n1, w_tg T2, fneg_nn n2, fc_eq n1 (neg_nn n2), kd_neg, n_setOdd T, w_bd, w_lt]
    by_cases c1 : isInf (hD h a 0)
    · rw [if_neg (not_not_intro c1)]
      by_cases c2 : KD (hD h a 0) = -KD (hD h b 0)
      · rw [if_pos c2, if_pos ⟨c1, c2⟩]
      · rw [if_neg c2, if_neg (fun z => c2 z.2), numW_o c.1]
    · rw [if_pos c1, if_neg (fun z => c1 z.1), numW_o c.1]
  · simp only [if_neg c, w_bd2]
    rw [if_neg (by decide)]
theorem n_minus (T : gT g a = 4) (T2 : gT g b = 4) (n1 : FP.dIsNaN (hD h a 0) = false) (n2 : FP.dIsNaN (hD h b 0) = false) : pX4_minus g h a b = some (numW h a (nMinus (hD h a 0) (hI h a 1) (hD h b 0) (hI h b 1)).1 (nMinus (hD h a 0) (hI h a 1) (hD h b 0) (hI h b 1)).2) := by
  unfold pX4_minus pX4_minus_b38 nMinus
  rw [n_takesOdd T T2, w_tg T]
  by_cases c : hI h a 1 = 0 ∧ hI h b 1 = 0
  · simp only [if_pos c, w_bd2, if_true, isInf_0 n1, w_tg T2, fc_eq n1 n2, n_setOdd T, w_bd, w_lt]
    by_cases c1 : isInf (hD h a 0)
    · rw [if_neg (not_not_intro c1)]
      by_cases c2 : KD (hD h a 0) = KD (hD h b 0)
      · rw [if_pos c2, if_pos ⟨c1, c2⟩]
      · rw [if_neg c2, if_neg (fun z => c2 z.2), numW_o c.1]
    · rw [if_pos c1, if_neg (fun z => c1 z.1), numW_o c.1]
  · simp only [if_neg c, w_bd2]
    rw [if_neg (by decide)]
theorem n_times (T : gT g a = 4) (T2 : gT g b = 4) (n1 : FP.dIsNaN (hD h a 0) = false) (n2 : FP.dIsNaN (hD h b 0) = false) : pX4_times g h a b = some (numW h a (nTimes (hD h a 0) (hI h a 1) (hD h b 0) (hI h b 1)).1 (nTimes (hD h a 0) (hI h a 1) (hD h b 0) (hI h b 1)).2) := by
  unfold pX4_times pX4_times_b28 pX4_times_b47 pX4_times_b54 nTimes
  rw [n_takesOdd T T2, w_tg T]
  by_cases c : hI h a 1 = 0 ∧ hI h b 1 = 0
  · simp only [if_pos c, w_bd2, if_true, isInf_0 n1, isInf_0 n2, w_tg T2, fc_eq n1 nn_0, fc_eq n2 nn_0, kd_0, n_setOdd T, w_bd, w_lt]
    by_cases c1 : KD (hD h a 0) = 0
    · rw [if_pos c1]
      by_cases c2 : isInf (hD h b 0)
      · rw [if_neg (not_not_intro c2), if_pos (Or.inl ⟨c1, c2⟩)]
      · rw [if_pos c2]
        have c3 : ¬ isInf (hD h a 0) := fun z => by rcases z with z | z <;> rw [c1] at z <;> exact absurd z (by decide)
        rw [if_pos c3, if_neg (fun z => z.elim (fun z => c2 z.2) (fun z => c3 z.1)), numW_o c.1]
    · rw [if_neg c1]
      by_cases c3 : isInf (hD h a 0)
      · rw [if_neg (not_not_intro c3)]
        by_cases c4 : KD (hD h b 0) = 0
        · rw [if_pos c4, if_pos (Or.inr ⟨c3, c4⟩)]
        · rw [if_neg c4, if_neg (fun z => z.elim (fun z => c1 z.1) (fun z => c4 z.2)), numW_o c.1]
      · rw [if_pos c3, if_neg (fun z => z.elim (fun z => c1 z.1) (fun z => c3 z.1)), numW_o c.1]
  · simp only [if_neg c, w_bd2]
    rw [if_neg (by decide)]
theorem n_over (T : gT g a = 4) (T2 : gT g b = 4) (n1 : FP.dIsNaN (hD h a 0) = false) (n2 : FP.dIsNaN (hD h b 0) = false) : pX4_over g h a b = some (numW h a (nOver (hD h a 0) (hI h a 1) (hD h b 0) (hI h b 1)).1 (nOver (hD h a 0) (hI h a 1) (hD h b 0) (hI h b 1)).2) := by
  unfold pX4_over pX4_over_b27 pX4_over_b47 pX4_over_b54 nOver
  rw [n_takesOdd T T2, w_tg T]
  by_cases c : hI h a 1 = 0 ∧ hI h b 1 = 0
  · simp only [if_pos c, w_bd2, if_true, isInf_0 n1, isInf_0 n2, w_tg T2, fc_eq n1 nn_0, fc_eq n2 nn_0, kd_0, n_setOdd T, w_bd, w_lt]
    by_cases c1 : KD (hD h a 0) = 0
    · rw [if_pos c1]
      have c3 : ¬ isInf (hD h a 0) := fun z => by rcases z with z | z <;> rw [c1] at z <;> exact absurd z (by decide)
      by_cases c2 : KD (hD h b 0) = 0
      · rw [if_pos c2, if_pos (Or.inl ⟨c1, c2⟩)]
      · rw [if_neg c2, if_pos c3, if_neg (fun z => z.elim (fun z => c2 z.2) (fun z => c3 z.1)), numW_o c.1]
    · rw [if_neg c1]
      by_cases c3 : isInf (hD h a 0)
      · rw [if_neg (not_not_intro c3)]
        by_cases c4 : isInf (hD h b 0)
        · rw [if_neg (not_not_intro c4), if_pos (Or.inr ⟨c3, c4⟩)]
        · rw [if_pos c4, if_neg (fun z => z.elim (fun z => c1 z.1) (fun z => c4 z.2)), numW_o c.1]
      · rw [if_pos c3, if_neg (fun z => z.elim (fun z => c1 z.1) (fun z => c3 z.1)), numW_o c.1]
  · simp only [if_neg c, w_bd2]
    rw [if_neg (by decide)]
theorem isMZ_0 {v : UInt64} (h : FP.dIsNaN v = false) : (pX4_isMinusZero v = 0) = ¬ v = 9223372036854775808 := by
  rw [isMZ h]; apply propext
  split
  · exact ⟨fun z => absurd z (by decide), fun z => absurd (by assumption) z⟩
  · exact ⟨fun _ => by assumption, fun _ => rfl⟩
theorem n_least (T : gT g a = 4) (T2 : gT g b = 4) (n1 : FP.dIsNaN (hD h a 0) = false) (n2 : FP.dIsNaN (hD h b 0) = false) : pX4_least g h a b = some (numW h a (nLeast (hD h a 0) (hI h a 1) (hD h b 0) (hI h b 1)).1 (nLeast (hD h a 0) (hI h a 1) (hD h b 0) (hI h b 1)).2) := by
  unfold pX4_least pX4_least_b40 nLeast
  rw [n_takesOdd T T2, w_tg T]
  by_cases c : hI h a 1 = 0 ∧ hI h b 1 = 0
  · simp only [if_pos c, w_bd2, if_true, w_tg T2, fc_lt n2 n1, isMZ_0 n2, fc_eq n1 nn_0, kd_0, w_lt]
    by_cases c1 : KD (hD h b 0) < KD (hD h a 0)
    · rw [if_pos c1, if_pos (Or.inl c1), numW_o c.1]
    · rw [if_neg c1]
      by_cases c2 : hD h b 0 = 9223372036854775808
      · rw [if_neg (not_not_intro c2)]
        by_cases c3 : KD (hD h a 0) = 0
        · rw [if_pos c3, if_pos (Or.inr ⟨c2, c3⟩), numW_o c.1]
        · rw [if_neg c3, if_neg (fun z => z.elim c1 (fun z => c3 z.2)), numW_id c.1 rfl]
      · rw [if_pos c2, if_neg (fun z => z.elim c1 (fun z => c2 z.1)), numW_id c.1 rfl]
  · simp only [if_neg c, w_bd2]
    rw [if_neg (by decide)]
theorem n_most (T : gT g a = 4) (T2 : gT g b = 4) (n1 : FP.dIsNaN (hD h a 0) = false) (n2 : FP.dIsNaN (hD h b 0) = false) : pX4_most g h a b = some (numW h a (nMost (hD h a 0) (hI h a 1) (hD h b 0) (hI h b 1)).1 (nMost (hD h a 0) (hI h a 1) (hD h b 0) (hI h b 1)).2) := by
  unfold pX4_most pX4_most_b40 nMost
  rw [n_takesOdd T T2, w_tg T]
  by_cases c : hI h a 1 = 0 ∧ hI h b 1 = 0
  · simp only [if_pos c, w_bd2, if_true, w_tg T2, fc_gt n2 n1, isMZ_0 n1, fc_eq n2 nn_0, kd_0, w_lt]
    by_cases c1 : KD (hD h a 0) < KD (hD h b 0)
    · rw [if_pos c1, if_pos (Or.inl c1), numW_o c.1]
    · rw [if_neg c1]
      by_cases c2 : hD h a 0 = 9223372036854775808
      · rw [if_neg (not_not_intro c2)]
        by_cases c3 : KD (hD h b 0) = 0
        · rw [if_pos c3, if_pos (Or.inr ⟨c2, c3⟩), numW_o c.1]
        · rw [if_neg c3, if_neg (fun z => z.elim c1 (fun z => c3 z.2)), numW_id c.1 rfl]
      · rw [if_pos c2, if_neg (fun z => z.elim c1 (fun z => c2 z.1)), numW_id c.1 rfl]
  · simp only [if_neg c, w_bd2]
    rw [if_neg (by decide)]
end NOP
section NR
variable {v w x y : UInt64} {o p : Int32}
theorem R_plus (H : NumR v o x) (H2 : NumR w p y) : NumR (nPlus v o w p).1 (nPlus v o w p).2 (fadd x y) := by
  unfold nPlus
  by_cases c : o = 0 ∧ p = 0
  · rw [if_pos c, H.x0 c.1, H2.x0 c.2]
    by_cases d : isInf v ∧ KD v = -KD w
    · rw [if_pos d, show fadd v w = NaNc from cnD_N ((add_nan H.2.1 H2.2.1).mpr d)]; exact NumR_nan
    · rw [if_neg d]
      have : FP.dIsNaN (FP.dadd v w) = false := by simpa using mt (add_nan H.2.1 H2.2.1).mp d
      refine NumR_ok ?_
      rw [show fadd v w = FP.dadd v w from cnD_nn this]; exact this
  · rw [if_neg c, fadd_n (by by_cases e : o = 0
                             · exact Or.inr (by rw [H2.x1 (fun z => c ⟨e, z⟩)]; exact NaNc_nan)
                             · exact Or.inl (by rw [H.x1 e]; exact NaNc_nan))]
    exact NumR_nan
theorem R_minus (H : NumR v o x) (H2 : NumR w p y) : NumR (nMinus v o w p).1 (nMinus v o w p).2 (fsub x y) := by
  unfold nMinus
  by_cases c : o = 0 ∧ p = 0
  · rw [if_pos c, H.x0 c.1, H2.x0 c.2]
    by_cases d : isInf v ∧ KD v = KD w
    · rw [if_pos d, show fsub v w = NaNc from cnD_N ((sub_nan H.2.1 H2.2.1).mpr d)]; exact NumR_nan
    · rw [if_neg d]
      have : FP.dIsNaN (FP.dsub v w) = false := by simpa using mt (sub_nan H.2.1 H2.2.1).mp d
      refine NumR_ok ?_
      rw [show fsub v w = FP.dsub v w from cnD_nn this]; exact this
  · rw [if_neg c, fsub_n (by by_cases e : o = 0
                             · exact Or.inr (by rw [H2.x1 (fun z => c ⟨e, z⟩)]; exact NaNc_nan)
                             · exact Or.inl (by rw [H.x1 e]; exact NaNc_nan))]
    exact NumR_nan
theorem R_times (H : NumR v o x) (H2 : NumR w p y) : NumR (nTimes v o w p).1 (nTimes v o w p).2 (fmul x y) := by
  unfold nTimes
  by_cases c : o = 0 ∧ p = 0
  · rw [if_pos c, H.x0 c.1, H2.x0 c.2]
    by_cases d : (KD v = 0 ∧ isInf w) ∨ (isInf v ∧ KD w = 0)
    · rw [if_pos d, show fmul v w = NaNc from cnD_N ((mul_nan H.2.1 H2.2.1).mpr d)]; exact NumR_nan
    · rw [if_neg d]
      have : FP.dIsNaN (FP.dmul v w) = false := by simpa using mt (mul_nan H.2.1 H2.2.1).mp d
      refine NumR_ok ?_
      rw [show fmul v w = FP.dmul v w from cnD_nn this]; exact this
  · rw [if_neg c, fmul_n (by by_cases e : o = 0
                             · exact Or.inr (by rw [H2.x1 (fun z => c ⟨e, z⟩)]; exact NaNc_nan)
                             · exact Or.inl (by rw [H.x1 e]; exact NaNc_nan))]
    exact NumR_nan
theorem R_over (H : NumR v o x) (H2 : NumR w p y) : NumR (nOver v o w p).1 (nOver v o w p).2 (fdiv x y) := by
  unfold nOver
  by_cases c : o = 0 ∧ p = 0
  · rw [if_pos c, H.x0 c.1, H2.x0 c.2]
    by_cases d : (KD v = 0 ∧ KD w = 0) ∨ (isInf v ∧ isInf w)
    · rw [if_pos d, show fdiv v w = NaNc from cnD_N ((div_nan H.2.1 H2.2.1).mpr d)]; exact NumR_nan
    · rw [if_neg d]
      have : FP.dIsNaN (FP.ddiv v w) = false := by simpa using mt (div_nan H.2.1 H2.2.1).mp d
      refine NumR_ok ?_
      rw [show fdiv v w = FP.ddiv v w from cnD_nn this]; exact this
  · rw [if_neg c, fdiv_n (by by_cases e : o = 0
                             · exact Or.inr (by rw [H2.x1 (fun z => c ⟨e, z⟩)]; exact NaNc_nan)
                             · exact Or.inl (by rw [H.x1 e]; exact NaNc_nan))]
    exact NumR_nan
theorem kd0_bits {v : UInt64} (h : KD v = 0) : v = 0 ∨ v = 9223372036854775808 := by
  have h1 := v.toNat_lt
  unfold KD FP.Core.dkey at h
  by_cases h2 : 2 ^ 63 ≤ v.toNat
  · rw [if_pos h2] at h
    right
    exact UInt64.toNat.inj (by show v.toNat = 9223372036854775808; omega)
  · rw [if_neg h2] at h
    left
    exact UInt64.toNat.inj (by show v.toNat = 0; omega)
theorem pick_val (gr : Bool) {v w : UInt64} (h1 : FP.dIsNaN v = false) (h2 : FP.dIsNaN w = false) : Native.java_lang_Math.nans.pick64 gr v w = if KD v < KD w then (if gr then w else v) else if KD w < KD v then (if gr then v else w) else if (v >>> 63 == 1) == gr then w else v := by
  have h : FP.dcmp v w = some (compare (KD v) (KD w)) := FP.Core.dcmp_key (nn_ne h1) (nn_ne h2)
  unfold Native.java_lang_Math.nans.pick64
  rw [h]
  by_cases c1 : KD v < KD w
  · rw [(FP.Core.compare_lt_iff _ _).mpr c1, if_pos c1]
  · by_cases c2 : KD v = KD w
    · rw [(FP.Core.compare_eq_iff _ _).mpr c2, if_neg c1, if_neg (show ¬ KD w < KD v by omega)]
    · rw [(FP.Core.compare_gt_iff _ _).mpr (by omega), if_neg c1, if_pos (show KD w < KD v by omega)]
theorem R_least (H : NumR v o x) (H2 : NumR w p y) : NumR (nLeast v o w p).1 (nLeast v o w p).2 (fmin x y) := by
  unfold nLeast
  by_cases c : o = 0 ∧ p = 0
  · rw [if_pos c, H.x0 c.1, H2.x0 c.2]
    have n1 := H.2.1
    have n2 := H2.2.1
    have e : fmin v w = if KD w < KD v ∨ (w = 9223372036854775808 ∧ KD v = 0) then w else v := by
      have e1 : Free.Fl.Abs.minDOf v w = if KD w < KD v ∨ (w = 9223372036854775808 ∧ KD v = 0) then w else v := by
        unfold Free.Fl.Abs.minDOf
        rw [n1, n2, if_neg (by decide), if_neg (by decide), pick_val false n1 n2]
        by_cases c1 : KD v < KD w
        · have hn : ¬ (KD w < KD v ∨ (w = 9223372036854775808 ∧ KD v = 0)) := by
            rintro (z | ⟨rfl, z⟩)
            · omega
            · rw [kd_n0] at c1; omega
          rw [if_pos c1, if_neg hn]; rfl
        · rw [if_neg c1]
          by_cases c2 : KD w < KD v
          · rw [if_pos c2, if_pos (Or.inl c2)]; rfl
          · rw [if_neg c2]
            have c3 : KD v = KD w := by omega
            by_cases c4 : KD v = 0
            · rcases kd0_bits c4 with rfl | rfl <;> rcases kd0_bits (c3.symm.trans c4) with rfl | rfl <;> decide +kernel
            · have := kd_inj c3 c4
              subst this
              rw [ite_self, ite_self]
      unfold fmin
      rw [e1]
      split
      · exact cnD_nn n2
      · exact cnD_nn n1
    rw [e]
    split
    · exact NumR_ok n2
    · exact NumR_ok n1
  · rw [if_neg c, fmin_n (by by_cases e : o = 0
                             · exact Or.inr (by rw [H2.x1 (fun z => c ⟨e, z⟩)]; exact NaNc_nan)
                             · exact Or.inl (by rw [H.x1 e]; exact NaNc_nan))]
    exact NumR_nan
theorem R_most (H : NumR v o x) (H2 : NumR w p y) : NumR (nMost v o w p).1 (nMost v o w p).2 (fmax x y) := by
  unfold nMost
  by_cases c : o = 0 ∧ p = 0
  · rw [if_pos c, H.x0 c.1, H2.x0 c.2]
    have n1 := H.2.1
    have n2 := H2.2.1
    have e : fmax v w = if KD v < KD w ∨ (v = 9223372036854775808 ∧ KD w = 0) then w else v := by
      have e1 : Free.Fl.Abs.maxDOf v w = if KD v < KD w ∨ (v = 9223372036854775808 ∧ KD w = 0) then w else v := by
        unfold Free.Fl.Abs.maxDOf
        rw [n1, n2, if_neg (by decide), if_neg (by decide), pick_val true n1 n2]
        by_cases c1 : KD v < KD w
        · rw [if_pos c1, if_pos (Or.inl c1)]; rfl
        · rw [if_neg c1]
          by_cases c2 : KD w < KD v
          · have hn : ¬ (KD v < KD w ∨ (v = 9223372036854775808 ∧ KD w = 0)) := by
              rintro (z | ⟨rfl, z⟩)
              · omega
              · rw [kd_n0] at c2; omega
            rw [if_pos c2, if_neg hn]; rfl
          · rw [if_neg c2]
            have c3 : KD v = KD w := by omega
            by_cases c4 : KD v = 0
            · rcases kd0_bits c4 with rfl | rfl <;> rcases kd0_bits (c3.symm.trans c4) with rfl | rfl <;> decide +kernel
            · have := kd_inj c3 c4
              subst this
              rw [ite_self, ite_self]
      unfold fmax
      rw [e1]
      split
      · exact cnD_nn n2
      · exact cnD_nn n1
    rw [e]
    split
    · exact NumR_ok n2
    · exact NumR_ok n1
  · rw [if_neg c, fmax_n (by by_cases e : o = 0
                             · exact Or.inr (by rw [H2.x1 (fun z => c ⟨e, z⟩)]; exact NaNc_nan)
                             · exact Or.inl (by rw [H.x1 e]; exact NaNc_nan))]
    exact NumR_nan
end NR
