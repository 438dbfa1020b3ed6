/-! an element is TAKEN, in the class: all of it -/
section TAK2
variable {B b L : Nat} {E : EC} {xs : Nat → Int32} {op st bt : Nat → Nat} {aL aS aO : Nat} {g : MT} {h h' h1 h2 : CT} {z : Nat} {F : Nat → Nat → Nat} {G : Nat → Nat → Int32}
theorem max_sub {a m l : Nat} (ha : a < 2 ^ 31) (hm : m < 2 ^ 31) (hl : l < 2 ^ 31) : pJ9_max_7cf53 (nI a) (nI m - nI l) = nI (max a (m - l)) := by
  by_cases c : l ≤ m
  · rw [pk_sub c, max_nI ha (by omega)]
  · have e : (nI m - nI l).toInt = (m : Int) - l := by rw [Int32.toInt_sub, nI_toInt hm, nI_toInt hl, Int.bmod_eq_of_le (by omega) (by omega)]
    unfold pJ9_max_7cf53
    rw [if_neg (by rw [Int32.lt_iff_toInt_lt, e, nI_toInt ha]; omega), show max a (m - l) = a by omega]
theorem opR_le {F : Nat → Nat → Nat} {f : Nat → Nat} {i T : Nat} (hF : ∀ a j, F a j ≤ T) : opR F f i ≤ T := by
  have h1 := hF 4 (16 * f 1 + i)
  have h2 := hF 4 (16 * f 2 + i)
  have h3 := hF 4 (16 * f 3 + i)
  unfold opR
  split <;> split <;> split <;> omega
theorem tk1_le {F : Nat → Nat → Nat} {f : Nat → Nat} {i s T : Nat} (hF : ∀ a j, F a j ≤ T) (hs : s ≤ T + 1) : tk1 F f i s ≤ T + 1 ∧ s ≤ tk1 F f i s := by
  have h0 := opR_le (f := f) (i := i) hF
  have h1 := hF 4 (16 * f 1 + i)
  have h2 := hF 5 (16 * f 1 + i)
  unfold tk1
  split <;> omega
theorem tk2_le {F : Nat → Nat → Nat} {f : Nat → Nat} {i s k T : Nat} (hF : ∀ a j, F a j ≤ T) (hs : s ≤ T + 1) : tk2 F f i s k ≤ T + 1 ∧ tk1 F f i s ≤ tk2 F f i s k := by
  have h0 := tk1_le (f := f) (i := i) hF hs
  have h1 := hF 6 k
  unfold tk2
  split <;> omega
def tkS (F : Nat → Nat → Nat) (i : Nat) : Nat := if i = 0 then F 0 8 - 1 else max (F 0 8 - 1) (F 0 10 + 1)
theorem tkS_le {F : Nat → Nat → Nat} {T : Nat} (hF : ∀ a j, F a j ≤ T) (i : Nat) : tkS F i ≤ T + 1 := by
  have h0 := hF 0 8
  have h1 := hF 0 10
  unfold tkS
  split <;> omega
theorem t_take (K : EOK E b L xs op st bt aL aS aO) (A : TimA g (hR h) z) (C : TC z h F G) {p i ik k y T : Nat} {f : Nat → Nat} (I : IC op g h p f) (hp : p < z ∨ z + 6 < p) (hf : FOK f) (he : isEl (f 0)) (hi : i < 16) (hk : ik < 30) (hF : ∀ a j, F a j ≤ T) (hT : T + 100 < 2 ^ 30) (hy : y ≤ 12) (h8 : 1 ≤ F 0 8) {bk : Int32} (hb : if isMm (f 0) then bk = nI k ∧ k < 16 else bk = -1) :
    ∃ h', pX10_take E g h z (nI ik) p (nI i) bk (nI y) = some h' ∧ TC z h' (tkF F f i (tkS F i) k y) (up2 G 2 ik (nI (tk2 F f i (tkS F i) k))) ∧ TFr z h h' := by
  have T60 := k_tag K hf.1
  have la := laN_le (f 0)
  have hs := tkS_le hF i
  have l1 := tk1_le (f := f) (i := i) hF hs
  have l2 := tk2_le (f := f) (i := i) (k := k) hF hs
  have l0 := opR_le (f := f) (i := i) hF
  generalize hsv : tkS F i = s at *
  have hF31 : ∀ a j, F a j < 2 ^ 31 := fun a j => by have := hF a j; omega
  -- behind the BANK
  have c120 : ∃ h', pX10_take_b120 E g z (nI ik) p (nI i) bk (nI y) (nI (laN (f 0))) (if wrD (f 0) then 1 else 0) (nI (tk1 F f i s)) h = some h' ∧ TC z h' (tkF F f i s k y) (up2 G 2 ik (nI (tk2 F f i s k))) ∧ TFr z h h' := by
    -- the BANK
    have hbank : ∃ h1, pX10_throughBank g h z (nI (tk1 F f i s)) bk (nI y) = some (nI (tk2 F f i s k), h1) ∧ TC z h1 (if isMm (f 0) then up2 (up2 F 0 1 (F 0 1 + (tk2 F f i s k - tk1 F f i s))) 6 k (tk2 F f i s k + y) else F) G ∧ TFr z h h1 := by
      by_cases c : isMm (f 0)
      · rw [if_pos c] at hb
        obtain ⟨rfl, hb2⟩ := hb
        have e : tk2 F f i s k = max (tk1 F f i s) (F 6 k) := by unfold tk2; rw [if_pos c]
        refine ⟨_, by rw [t_bank A C hb2 (by omega) (hF31 _ _), e], ?_, ((TFr.rf z h).o (by decide)).a (by decide) (by decide)⟩
        rw [if_pos c, e]
        exact (C.o (by decide)).a (by decide) (by decide)
      · rw [if_neg c] at hb
        subst hb
        have e : tk2 F f i s k = tk1 F f i s := by unfold tk2; rw [if_neg c]
        rw [if_neg c, e]
        exact ⟨h, t_bankN A, C, TFr.rf z h⟩
    obtain ⟨h1, b1, b2, b3⟩ := hbank
    generalize hw : tk2 F f i s k = w at *
    generalize hG : (if isMm (f 0) then up2 (up2 F 0 1 (F 0 1 + (w - tk1 F f i s))) 6 k (w + y) else F) = F1 at *
    have A1 : TimA g (hR h1) z := by rw [b3.1]; exact A
    have C2 := b2.o (v := w) (j := 10) (by decide)
    have f2 : TFr z h (sI h1 z 10 (nI w)) := b3.o (by decide)
    have I2 := I.fr f2 hp
    -- in the rows that are asked for below F1 is F
    have F1e : ∀ a j, a ≠ 6 → ¬ (a = 0 ∧ j = 1) → F1 a j = F a j := fun a j a1 a2 => by
      rw [← hG]
      split
      · rw [up2_n (by omega), up2_n (by omega)]
      · rfl
    have F1b : ∀ a j, up2 F1 0 10 w a j < 2 ^ 31 := fun a j => by
      have hh := hF a j
      have h01 := hF 0 1
      have l3 := l2.1
      by_cases e1 : a = 0 ∧ j = 10
      · rw [e1.1, e1.2, up2_s]; omega
      · rw [up2_n e1, ← hG]
        by_cases c : isMm (f 0)
        · rw [if_pos c]
          unfold up2
          split
          · omega
          · split <;> omega
        · rw [if_neg c]; omega
    have F101 : F1 0 1 = F 0 1 + (w - tk1 F f i s) := by
      rw [← hG]
      by_cases c : isMm (f 0)
      · rw [if_pos c, up2_n (by omega), up2_s]
      · have : tk2 F f i s k = tk1 F f i s := by unfold tk2; rw [if_neg c]
        rw [if_neg c]; omega
    have F16 : ∀ j, F1 6 j = if isMm (f 0) ∧ j = k then w + y else F 6 j := fun j => by
      rw [← hG]
      by_cases c : isMm (f 0)
      · rw [if_pos c]
        by_cases e : j = k
        · rw [e, up2_s, if_pos ⟨c, rfl⟩]
        · rw [up2_n (fun q => e q.2), up2_n (by omega), if_neg (fun q => e q.2)]
      · rw [if_neg c, if_neg (fun q => c q.1)]
    have fin : ∀ F9 : Nat → Nat → Nat, F9 0 0 = max (F 0 0) (if wrD (f 0) then w + laN (f 0) else w) → (wrD (f 0) → F9 4 (16 * f 1 + i) = w + laN (f 0)) → (∀ a j, ¬ (a = 0 ∧ j = 0) → ¬ (a = 4 ∧ wrD (f 0) ∧ j = 16 * f 1 + i) → F9 a j = rdF (up2 F1 0 10 w) f i w a j) → ∀ a j, tkF F f i s k y a j = F9 a j := fun F9 h90 h94 h9 a j => by
      have r5 : ∀ a j, a ≠ 5 → rdF (up2 F1 0 10 w) f i w a j = up2 F1 0 10 w a j := fun a j q => by unfold rdF; rw [if_neg (fun z => q z.1)]
      rcases (show a = 0 ∨ a = 4 ∨ a = 5 ∨ a = 6 ∨ (a ≠ 0 ∧ a ≠ 4 ∧ a ≠ 5 ∧ a ≠ 6) by omega) with rfl | rfl | rfl | rfl | ⟨n0, n4, n5, n6⟩
      · unfold tkF
        rw [if_pos rfl, hw]
        by_cases j0 : j = 0
        · rw [if_pos j0, j0, h90]
        · rw [if_neg j0, h9 0 j (fun q => j0 q.2) (fun q => absurd q.1 (by decide)), r5 0 j (by decide)]
          by_cases j1 : j = 1
          · rw [if_pos j1, j1, up2_n (by omega), F101]
          · rw [if_neg j1]
            by_cases j10 : j = 10
            · rw [if_pos j10, j10, up2_s]
            · rw [if_neg j10, up2_n (fun q => j10 q.2), F1e 0 j (by decide) (fun q => j1 q.2)]
      · unfold tkF
        rw [if_neg (by decide), if_pos rfl, hw]
        by_cases c : wrD (f 0) ∧ j = 16 * f 1 + i
        · rw [if_pos c, c.2, h94 c.1]
        · rw [if_neg c, h9 4 j (fun q => absurd q.1 (by decide)) (fun q => c q.2), r5 4 j (by decide), up2_n (fun q => absurd q.1 (by decide)), F1e 4 j (by decide) (fun q => absurd q.1 (by decide))]
      · unfold tkF
        rw [if_neg (by decide), if_neg (by decide), if_pos rfl, hw, h9 5 j (fun q => absurd q.1 (by decide)) (fun q => absurd q.1 (by decide))]
        unfold rdF
        have u5 : up2 F1 0 10 w 5 j = F 5 j := by rw [up2_n (fun q => absurd q.1 (by decide)), F1e 5 j (by decide) (fun q => absurd q.1 (by decide))]
        by_cases c : (rdD (f 0) ∧ j = 16 * f 1 + i) ∨ (rdA (f 0) ∧ j = 16 * f 2 + i) ∨ (rdB (f 0) ∧ j = 16 * f 3 + i)
        · rw [if_pos c, if_pos (show (5 : Nat) = 5 ∧ _ from ⟨rfl, c⟩), u5]
        · rw [if_neg c, if_neg (show ¬ ((5 : Nat) = 5 ∧ _) from fun q => c q.2), u5]
      · unfold tkF
        rw [if_neg (by decide), if_neg (by decide), if_neg (by decide), if_pos rfl, hw, h9 6 j (fun q => absurd q.1 (by decide)) (fun q => absurd q.1 (by decide)), r5 6 j (by decide), up2_n (fun q => absurd q.1 (by decide)), F16]
      · unfold tkF
        rw [if_neg n0, if_neg n4, if_neg n5, if_neg n6, h9 a j (fun q => n0 q.1) (fun q => n4 q.1), r5 a j n5, up2_n (fun q => n0 q.1), F1e a j n6 (fun q => n0 q.1)]
    obtain ⟨h3, c1, c2, c3⟩ := t_readOps K (h := sI h1 z 10 (nI w)) A1 C2 (w := w) I2 hp hf hi F1b (up2_s _ _ _ _)
    have f3 := f2.tr c3
    have A3 : TimA g (hR h3) z := by rw [f3.1]; exact A
    have I3 := I.fr f3 hp
    have e10 : hI h3 z 10 = nI w := by
      rw [c2.1 10 (by decide)]
      unfold rdF
      rw [if_neg (by omega), up2_s]
    have e00 : hI h3 z 0 = nI (F 0 0) := by
      rw [c2.1 0 (by decide)]
      unfold rdF
      rw [if_neg (by omega), up2_n (by omega), F1e 0 0 (by omega) (by omega)]
    unfold pX10_take_b120 pX10_take_b161
    rw [b1, w_bd2, w_lt, c1, w_bd]
    simp only [b01, ite_not]
    by_cases c : wrD (f 0)
    · rw [if_pos c, w_tg I3.1, I3.2.2 1 (by decide) (by decide), e10, nI_add, t_readyFrom A3 e00 (hF31 _ _) hf.2.1 hi (by omega), w_bd]
      have e10' : hI (sI (sI h3 (z + 4) (16 * f 1 + i) (nI (w + laN (f 0)))) z 0 (nI (max (F 0 0) (w + laN (f 0))))) z 10 = nI w := by
        rw [hI_sI, if_pos rfl, ud_n (by decide), hI_sI, if_neg (by omega)]; exact e10
      have h0 := hF 0 0
      rw [e10', t_endAt (h := sI (sI h3 (z + 4) (16 * f 1 + i) (nI (w + laN (f 0)))) z 0 (nI (max (F 0 0) (w + laN (f 0))))) A3 (hI_s _ _ _ _) (by omega) hk (by omega), w_bd]
      refine ⟨_, rfl, TC.to (((((c2.a (by decide) (by decide)).o (by decide)).o (by decide)).bg (by decide) (by decide))) (fin _ ?_ (fun _ => ?_) (fun a j q0 q4 => ?_)) (fun _ _ => rfl), f3.tr (((((TFr.rf z h3).a (by decide) (by decide)).o (by decide)).o (by decide)).a (by decide) (by decide))⟩
      · rw [up2_s, if_pos c]; omega
      · rw [up2_n (fun q => absurd q.1 (by decide)), up2_n (fun q => absurd q.1 (by decide)), up2_s]
      · rw [up2_n q0, up2_n q0, up2_n (fun q => q4 ⟨q.1, c, q.2⟩)]
    · rw [if_neg c, e10, t_endAt A3 e00 (hF31 _ _) hk (by omega), w_bd]
      refine ⟨_, rfl, TC.to ((c2.o (by decide)).bg (by decide) (by decide)) (fin _ ?_ (fun q => absurd q c) (fun a j q0 q4 => ?_)) (fun _ _ => rfl), f3.tr (((TFr.rf z h3).o (by decide)).a (by decide) (by decide))⟩
      · rw [up2_s, if_neg c]
      · rw [up2_n q0]
  have c61 : pX10_take_b61 E g z (nI ik) p (nI i) bk (nI y) (nI (laN (f 0))) (if wrD (f 0) then 1 else 0) (nI s) h = pX10_take_b120 E g z (nI ik) p (nI i) bk (nI y) (nI (laN (f 0))) (if wrD (f 0) then 1 else 0) (nI (tk1 F f i s)) h := by
    have r1 := C.2.2.1 4 (16 * f 1 + i) (by decide) (by decide) (show 16 * f 1 + i < 96 by have := hf.2.1; omega)
    have r2 := C.2.2.1 5 (16 * f 1 + i) (by decide) (by decide) (show 16 * f 1 + i < 96 by have := hf.2.1; omega)
    have q1 := hF 4 (16 * f 1 + i)
    have q2 := hF 5 (16 * f 1 + i)
    have hc : 16 * f 1 + i < 96 := by have := hf.2.1; omega
    unfold pX10_take_b61
    rw [t_opsReady K A C I hf hi hF31, w_bd, w_lt, max_nI (by omega) (by omega)]
    simp only [b01, ite_not]
    unfold tk1
    by_cases c : wrD (f 0)
    · rw [if_pos c, if_pos c, if_pos c, w_tg I.1, I.2.2 1 (by decide) (by decide), t_cell hf.2.1 hi, w_lt, w_lt, A.2.2.2.2.1.1, w_nn, w_tg A.2.2.2.2.1.2.1, A.2.2.2.2.1.2.2, w_ix hc (by decide), w_lt, A.2.2.2.2.2.1.1, w_nn, w_tg A.2.2.2.2.2.1.2.1, A.2.2.2.2.2.1.2.2, w_ix hc (by decide), nI_clamp (by omega), r1, r2, max_nI (by omega) (by omega), nI_1, max_sub (by omega) (by omega) (by omega), w_lt]
    · rw [if_neg c, if_neg c, if_neg c, Nat.max_zero]
  have c35 : ∀ l7, pX10_take_b35 E g z (nI ik) p (nI i) bk (nI y) (nI (laN (f 0))) l7 h = pX10_take_b61 E g z (nI ik) p (nI i) bk (nI y) (nI (laN (f 0))) l7 (nI s) h := fun l7 => by
    unfold pX10_take_b35
    have e8 : hI h z 8 = nI (F 0 8 - 1) := by rw [C.2.1]; exact pk_sub (b := 1) h8
    have u8 := hF 0 8
    have u10 := hF 0 10
    rw [e8, C.1 10 (by decide), nI_1, max_nI (by omega) (by omega)]
    by_cases c : i = 0
    · rw [if_pos (by rw [c]; rfl), ← hsv, tkS, if_pos c]
    · rw [if_neg (nI_ne0 (by omega) (by omega)), ← hsv, tkS, if_neg c]
  unfold pX10_take pX10_take_b34
  rw [w_tg A.1, w_tg I.1, w_lt, I.2.1, w_nn, w_tg T60, k_lat K hf.1 he, w_bd, w_lt, w_nn, w_tg T60, d_wD K hf.1, w_bd]
  simp only [b01, ite_not]
  have e26 : E.1 26 = .ref (op 21) := e_st K 21 (by decide)
  rw [w_lt, e26, w_kR, c35, c35]
  have hf28 : f 0 < 28 := Nat.lt_of_lt_of_le hf.1 (by decide)
  simp only [eq_op K hf28 (show 21 < 28 by decide)]
  obtain ⟨h', q1, q2, q3⟩ := c120
  refine ⟨h', ?_, q2, q3⟩
  rw [← q1, ← c61]
  by_cases c : wrD (f 0)
  · rw [if_pos (Or.inl c), if_neg (by omega), if_pos c]
  · by_cases d : f 0 = 21
    · rw [if_pos (Or.inr d), if_pos d, if_neg c]
    · rw [if_neg (by omega), if_neg c]
end TAK2
