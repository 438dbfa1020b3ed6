/-! behind the elements; beginnings, in the class -/
section FIN
variable {B b L : Nat} {E : EC} {xs : Nat → Int32} {op st bt : Nat → Nat} {aL aS aO : Nat} {g : MT} {h h' h1 h2 : CT} {z : Nat} {F : Nat → Nat → Nat} {G : Nat → Nat → Int32}
def fnF (F : Nat → Nat → Nat) (f : Nat → Nat) (w n : Nat) : Nat → Nat → Nat := fun a j =>
  if a = 0 then (if j = 0 then max (F 0 0) (if isCp (f 0) ∨ (f 0 = 21 ∧ 0 < n) then w + laN (f 0) else 0) else if j = 11 ∧ isCp (f 0) then w + laN (f 0) else if j = 12 ∧ (f 8 = 1 ∨ f 0 = 21) then max (F 0 12) w else F 0 j)
  else if a = 3 then (if j = unN (f 0) then w + 1 else F 3 j)
  else if a = 4 then (if f 0 = 21 ∧ 16 * f 1 ≤ j ∧ j < 16 * f 1 + n then w + laN (f 0) else F 4 j)
  else F a j
/-- what was packed is READY -/
theorem t_pack (A0 : TimA g (hR h) z) (C0 : TC z h F G) {p w n c0 : Nat} {f : Nat → Nat} (I0 : IC op g h p f) (hp : p < z ∨ z + 6 < p) (hf : FOK f) (hn : n ≤ 16) (hw : w < 2 ^ 31) (hc : F 0 0 < 2 ^ 31) :
    ∃ h', pX10_finish_l118 E g z p (nI n) FUEL (nI w) 0 h = some h' ∧ TC z h' (fun a j => if a = 0 ∧ j = 0 then max (F 0 0) (if 0 < n then w else 0) else if a = 4 ∧ 16 * f 1 ≤ j ∧ j < 16 * f 1 + n then w else F a j) G ∧ TFr z h h' := by
  have := loopN (L := fun u j x => pX10_finish_l118 E g z p (nI n) u (nI w) (nI j) x) (N := n) (Inv := fun j x => TC z x (fun a i => if a = 0 ∧ i = 0 then max (F 0 0) (if 0 < j then w else 0) else if a = 4 ∧ 16 * f 1 ≤ i ∧ i < 16 * f 1 + j then w else F a i) G ∧ TFr z h x)
    (Post := fun x => TC z x (fun a i => if a = 0 ∧ i = 0 then max (F 0 0) (if 0 < n then w else 0) else if a = 4 ∧ 16 * f 1 ≤ i ∧ i < 16 * f 1 + n then w else F a i) G ∧ TFr z h x) (fun u j x hj H => by
      obtain ⟨C, fr⟩ := H
      have A : TimA g (hR x) z := by rw [fr.1]; exact A0
      have I := I0.fr fr hp
      refine ⟨sI (sI x (z + 4) (16 * f 1 + j) (nI w)) z 0 (nI (max (max (F 0 0) (if 0 < j then w else 0)) w)), ?_, ?_, (fr.a (by decide) (by decide)).o (by decide)⟩
      · show pX10_finish_l118 E g z p (nI n) (u + 1) (nI w) (nI j) x = _
        rw [pX10_finish_l118, pX10_finish_b118, if_neg (nI_ge hj (by omega)), w_tg I.1, I.2.2 1 (by decide) (by decide), t_readyFrom (c := max (F 0 0) (if 0 < j then w else 0)) A (C.1 0 (by decide)) (by split <;> omega) hf.2.1 (by omega) hw, w_bd, w_lt, nI_1]
      · refine TC.to ((C.a (a := 4) (k := 16 * f 1 + j) (v := w) (by decide) (by decide)).o (j := 0) (v := max (max (F 0 0) (if 0 < j then w else 0)) w) (by decide)) (fun a i => ?_) (fun _ _ => rfl)
        by_cases e0 : a = 0 ∧ i = 0
        · rw [if_pos e0, e0.1, e0.2, up2_s, if_pos (by omega)]
          split <;> omega
        · rw [if_neg e0, up2_n e0]
          by_cases e4 : a = 4 ∧ i = 16 * f 1 + j
          · rw [if_pos ⟨e4.1, by omega, by omega⟩, e4.1, e4.2, up2_s]
          · rw [up2_n e4, if_neg e0]
            by_cases e5 : a = 4 ∧ 16 * f 1 ≤ i ∧ i < 16 * f 1 + j
            · rw [if_pos e5, if_pos ⟨e5.1, e5.2.1, by omega⟩]
            · rw [if_neg e5, if_neg (fun q => e5 ⟨q.1, q.2.1, by have := q.2.2; have := q.1; omega⟩)]) (fun u x H => ⟨x, by
    show pX10_finish_l118 E g z p (nI n) (u + 1) (nI w) (nI n) x = _
    rw [pX10_finish_l118, pX10_finish_b118, if_pos (nI_le (Nat.le_refl n) (by omega))], H⟩) n 0 FUEL h (by omega) (by unfold FUEL; omega) ⟨TC.to C0 (fun a j => by
      by_cases e0 : a = 0 ∧ j = 0
      · rw [if_pos e0, e0.1, e0.2, if_neg (by omega), Nat.max_zero]
      · rw [if_neg e0, if_neg (by omega)]) (fun _ _ => rfl), TFr.rf z h⟩
  obtain ⟨r, q1, q2, q3⟩ := this
  exact ⟨r, q1, q2, q3⟩
theorem t_finish (K : EOK E b L xs op st bt aL aS aO) (A : TimA g (hR h) z) (C : TC z h F G) {p w n : Nat} {f : Nat → Nat} (I : IC op g h p f) (hp : p < z ∨ z + 6 < p) (hf : FOK f) (he : isEl (f 0)) (hn : n ≤ 16) (hF : ∀ a j, F a j < 2 ^ 30) (hw : F 0 10 = w) :
    ∃ h', pX10_finish E g h z p (nI n) = some h' ∧ TC z h' (fnF F f w n) G ∧ TFr z h h' := by
  have T60 := k_tag K hf.1
  have la := laN_le (f 0)
  have u4 := unN_lt (f 0)
  have w30 : w < 2 ^ 30 := by rw [← hw]; exact hF 0 10
  have e26 : E.1 26 = .ref (op 21) := e_st K 21 (by decide)
  -- PACK
  have c105 : ∀ (h : CT) (F : Nat → Nat → Nat), TimA g (hR h) z → TC z h F G → IC op g h p f → F 0 0 < 2 ^ 31 → ∃ h', pX10_finish_b105 E g z p (nI n) (nI (w + laN (f 0))) h = some h' ∧ TC z h' (fun a j => if a = 0 ∧ j = 0 then max (F 0 0) (if f 0 = 21 ∧ 0 < n then w + laN (f 0) else 0) else if a = 4 ∧ f 0 = 21 ∧ 16 * f 1 ≤ j ∧ j < 16 * f 1 + n then w + laN (f 0) else F a j) G ∧ TFr z h h' := fun h F A C I h0 => by
    unfold pX10_finish_b105
    rw [w_tg I.1, w_lt, e26, w_kR, I.2.1]
    have hf28 : f 0 < 28 := Nat.lt_of_lt_of_le hf.1 (by decide)
    simp only [eq_op K hf28 (show 21 < 28 by decide)]
    by_cases c : f 0 = 21
    · rw [if_pos c]
      obtain ⟨h', q1, q2, q3⟩ := t_pack (E := E) A C I hp hf hn (show w + laN (f 0) < 2 ^ 31 by omega) h0 (c0 := 0)
      refine ⟨h', q1, q2.to (fun a j => ?_) (fun _ _ => rfl), q3⟩
      simp only [c, true_and]
    · rw [if_neg c]
      refine ⟨h, rfl, C.to (fun a j => ?_) (fun _ _ => rfl), TFr.rf z h⟩
      simp only [c, false_and, and_false, if_false, Nat.max_zero]
      by_cases e0 : a = 0 ∧ j = 0
      · rw [if_pos e0, e0.1, e0.2]
      · rw [if_neg e0]
  have c71 : ∀ (h : CT) (F : Nat → Nat → Nat), TimA g (hR h) z → TC z h F G → IC op g h p f → F 0 0 < 2 ^ 31 → F 0 12 < 2 ^ 31 → F 0 10 = w → ∃ h', pX10_finish_b71 E g z p (nI n) (nI (w + laN (f 0))) h = some h' ∧ TC z h' (fun a j => if a = 0 ∧ j = 0 then max (F 0 0) (if f 0 = 21 ∧ 0 < n then w + laN (f 0) else 0) else if a = 4 ∧ f 0 = 21 ∧ 16 * f 1 ≤ j ∧ j < 16 * f 1 + n then w + laN (f 0) else if a = 0 ∧ j = 12 ∧ (f 8 = 1 ∨ f 0 = 21) then max (F 0 12) w else F a j) G ∧ TFr z h h' := fun h F A C I h0 h12 hw => by
    have e8 := I.2.2 8 (by decide) (by decide)
    have b90 : ∃ h', pX10_finish_b90 E g z p (nI n) (nI (w + laN (f 0))) h = some h' ∧ TC z h' (fun a j => if a = 0 ∧ j = 0 then max (F 0 0) (if f 0 = 21 ∧ 0 < n then w + laN (f 0) else 0) else if a = 4 ∧ f 0 = 21 ∧ 16 * f 1 ≤ j ∧ j < 16 * f 1 + n then w + laN (f 0) else if a = 0 ∧ j = 12 then max (F 0 12) w else F a j) G ∧ TFr z h h' := by
      unfold pX10_finish_b90
      rw [C.1 12 (by decide), C.1 10 (by decide), hw, max_nI h12 (by omega), w_lt]
      have fr : TFr z h (sI h z 12 (nI (max (F 0 12) w))) := (TFr.rf z h).o (by decide)
      obtain ⟨h', q1, q2, q3⟩ := c105 (sI h z 12 (nI (max (F 0 12) w))) _ A (C.o (by decide)) (I.fr fr hp) (by rw [up2_n (by omega)]; exact h0)
      refine ⟨h', q1, q2.to (fun a j => ?_) (fun _ _ => rfl), fr.tr q3⟩
      rw [up2_n (show ¬ ((0 : Nat) = 0 ∧ (0 : Nat) = 12) by omega)]
      rfl
    unfold pX10_finish_b71
    rw [w_tg I.1, e8, w_lt, I.2.1, w_nn, w_tg T60, d_rM K hf.1, w_bd]
    simp only [b01, ite_not]
    by_cases c8 : f 8 = 1
    · rw [if_neg (by rw [c8]; decide)]
      obtain ⟨h', q1, q2, q3⟩ := b90
      exact ⟨h', q1, by simp only [c8, true_or, and_true]; exact q2, q3⟩
    · rw [if_pos (by rw [show f 8 = 0 by have := hf.2.2.2.2.2.2.2.2.2.1; omega]; rfl)]
      by_cases c21 : f 0 = 21
      · rw [if_pos (Or.inr (Or.inl c21))]
        obtain ⟨h', q1, q2, q3⟩ := b90
        exact ⟨h', q1, q2.to (fun a j => by simp only [c21, or_true, and_true]) (fun _ _ => rfl), q3⟩
      · rw [if_neg (by omega)]
        obtain ⟨h', q1, q2, q3⟩ := c105 h F A C I h0
        exact ⟨h', q1, q2.to (fun a j => by simp only [c21, c8, or_false, and_false, if_false]) (fun _ _ => rfl), q3⟩
  have fr0 : TFr z h (sI h (z + 3) (unN (f 0)) (nI (w + 1))) := (TFr.rf z h).a (by decide) (by decide)
  have C0 : TC z (sI h (z + 3) (unN (f 0)) (nI (w + 1))) (up2 F 3 (unN (f 0)) (w + 1)) G := C.a (by decide) (by decide)
  have n0 : up2 F 3 (unN (f 0)) (w + 1) 0 = F 0 := funext fun j => up2_n (by omega)
  have c47 : ∃ h', pX10_finish_b47 E g z p (nI n) (nI (w + laN (f 0))) (sI h (z + 3) (unN (f 0)) (nI (w + 1))) = some h' ∧ TC z h' (fnF F f w n) G ∧ TFr z h h' := by
    generalize sI h (z + 3) (unN (f 0)) (nI (w + 1)) = h3 at *
    have A3 : TimA g (hR h3) z := by rw [fr0.1]; exact A
    have I3 := I.fr fr0 hp
    unfold pX10_finish_b47
    rw [w_tg I3.1, w_lt, I3.2.1, w_nn, w_tg T60, d_wM K hf.1, w_bd]
    simp only [b01, ite_not]
    have h00 := hF 0 0
    have h012 := hF 0 12
    by_cases c : isCp (f 0)
    · rw [if_pos (Or.inl c), w_lt]
      have fr4 : TFr z h (sI h3 z 11 (nI (w + laN (f 0)))) := fr0.o (by decide)
      have C4 := C0.o (j := 11) (v := w + laN (f 0)) (by decide)
      rw [t_note (h := sI h3 z 11 (nI (w + laN (f 0)))) (c := F 0 0) A3 (by rw [C4.1 0 (by decide), up2_n (by omega), n0]) (by omega) (by omega), w_bd]
      have fr5 : TFr z h (sI (sI h3 z 11 (nI (w + laN (f 0)))) z 0 (nI (max (F 0 0) (w + laN (f 0))))) := fr4.o (by decide)
      have C5 := C4.o (j := 0) (v := max (F 0 0) (w + laN (f 0))) (by decide)
      obtain ⟨h', q1, q2, q3⟩ := c71 (sI (sI h3 z 11 (nI (w + laN (f 0)))) z 0 (nI (max (F 0 0) (w + laN (f 0))))) _ A3 C5 (I.fr fr5 hp) (by rw [up2_s]; omega) (by rw [up2_n (by omega), up2_n (by omega), n0]; omega) (by rw [up2_n (by omega), up2_n (by omega), n0]; exact hw)
      refine ⟨h', q1, q2.to (fun a j => ?_) (fun _ _ => rfl), fr5.tr q3⟩
      have c21 : ¬ f 0 = 21 := by omega
      have c8 : ¬ f 8 = 1 := fun q => by have := hf.2.2.2.2.2.2.2.2.2.2 q; omega
      clear q2
      unfold fnF up2
      grind
    · rw [if_neg (by omega)]
      obtain ⟨h', q1, q2, q3⟩ := c71 h3 _ A3 C0 I3 (by rw [n0]; omega) (by rw [n0]; omega) (by rw [n0]; exact hw)
      refine ⟨h', q1, q2.to (fun a j => ?_) (fun _ _ => rfl), fr0.tr q3⟩
      clear q2
      unfold fnF up2
      grind
  unfold pX10_finish
  rw [w_tg A.1, w_tg I.1, w_lt, I.2.1, w_nn, w_tg T60, w_lt, w_lt, w_nn, w_tg T60, k_lat K hf.1 he, w_bd, k_unit K hf.1, if_pos he, C.1 10 (by decide), hw, nI_add, w_lt, if_neg (nI_pos (by omega)), w_lt, A.2.2.2.1.1, w_nn, w_tg A.2.2.2.1.2.1, A.2.2.2.1.2.2, if_neg (show ¬ Int32.ofNat 4 ≤ nI (unN (f 0)) from nI_ge u4 (by decide)), w_lt, w_nn, w_tg A.2.2.2.1.2.1, A.2.2.2.1.2.2, w_ix u4 (by decide), nI_clamp (by omega), nI_1, w_lt]
  exact c47
end FIN
