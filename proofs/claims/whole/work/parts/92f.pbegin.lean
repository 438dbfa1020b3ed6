/-! beginnings, flip, count, fold, an end, in the class -/
section BEG
variable {B b L : Nat} {E : EC} {xs : Nat → Int32} {op st bt : Nat → Nat} {aL aS aO : Nat} {g : MT} {h h' h1 h2 : CT} {z : Nat} {F : Nat → Nat → Nat} {G : Nat → Nat → Int32}
def sup0 (f : Nat → Nat) : Nat → Nat
  | 0 => 0
  | n + 1 => max (sup0 f n) (f n)
theorem sup0_le {f : Nat → Nat} {T : Nat} (hf : ∀ i, f i ≤ T) (n : Nat) : sup0 f n ≤ T := by
  induction n with
  | zero => exact Nat.zero_le _
  | succ n ih => have := hf n; simp only [sup0]; omega
theorem sup0_max (f k : Nat → Nat) (n : Nat) : sup0 (fun i => max (f i) (k i)) n = max (sup0 f n) (sup0 k n) := by
  induction n with
  | zero => rfl
  | succ n ih => simp only [sup0, ih]; omega
def rrF (F : Nat → Nat → Nat) (f : Nat → Nat) (i : Nat) : Nat := if f 0 = 21 then max (F 4 (16 * f 1 + i)) (F 5 (16 * f 1 + i)) else F 4 (16 * f 1 + i)
theorem rrF_le {F : Nat → Nat → Nat} {f : Nat → Nat} {T : Nat} (hF : ∀ a j, F a j ≤ T) (i : Nat) : rrF F f i ≤ T := by
  have h1 := hF 4 (16 * f 1 + i)
  have h2 := hF 5 (16 * f 1 + i)
  unfold rrF
  split <;> omega
theorem t_rowReady (K : EOK E b L xs op st bt aL aS aO) (A : TimA g (hR h) z) (C : TC z h F G) {p n T : Nat} {f : Nat → Nat} (I : IC op g h p f) (hf : FOK f) (hn : n ≤ 16) (hF : ∀ a j, F a j ≤ T) (hT : T < 2 ^ 31) : pX10_rowReady E g h z p (nI n) = some (nI (sup0 (rrF F f) n)) := by
  have e26 : E.1 26 = .ref (op 21) := e_st K 21 (by decide)
  have := loopN (L := fun u j (s : Int32) => pX10_rowReady_l5 E g h z p (nI n) u s (nI j)) (N := n) (Inv := fun j s => s = nI (sup0 (rrF F f) j)) (Post := fun s => s = nI (sup0 (rrF F f) n)) (fun u j s hj H => by
      subst H
      have hc : 16 * f 1 + j < 96 := by have := hf.2.1; omega
      have s1 := sup0_le (f := rrF F f) (rrF_le hF) j
      have q1 := hF 4 (16 * f 1 + j)
      have q2 := hF 5 (16 * f 1 + j)
      have r1 := C.2.2.1 4 (16 * f 1 + j) (by decide) (by decide) hc
      have r2 := C.2.2.1 5 (16 * f 1 + j) (by decide) (by decide) hc
      refine ⟨nI (max (sup0 (rrF F f) j) (rrF F f j)), ?_, rfl⟩
      show pX10_rowReady_l5 E g h z p (nI n) (u + 1) (nI (sup0 (rrF F f) j)) (nI j) = _
      rw [pX10_rowReady_l5, pX10_rowReady_b5, if_neg (nI_ge hj (by omega)), w_tg I.1, I.2.2 1 (by decide) (by decide), t_cell hf.2.1 (by omega), w_lt, w_lt, A.2.2.2.2.1.1, w_nn, w_tg A.2.2.2.2.1.2.1, A.2.2.2.2.1.2.2, w_ix hc (by decide), nI_clamp (by omega), r1, max_nI (by omega) (by omega), w_lt, w_lt, e26, w_kR, I.2.1]
      have hf28 : f 0 < 28 := Nat.lt_of_lt_of_le hf.1 (by decide)
      simp only [eq_op K hf28 (show 21 < 28 by decide)]
      unfold rrF pX10_rowReady_b56
      by_cases c : f 0 = 21
      · rw [if_pos c, if_pos c, w_lt, A.2.2.2.2.2.1.1, w_nn, w_tg A.2.2.2.2.2.1.2.1, A.2.2.2.2.2.1.2.2, w_ix hc (by decide), r2]
        have e : (fun i => if f 0 = 21 then max (F 4 (16 * f 1 + i)) (F 5 (16 * f 1 + i)) else F 4 (16 * f 1 + i)) = rrF F f := rfl
        rw [e, max_nI (by omega) (by omega), w_lt, w_lt, nI_1, Nat.max_assoc]
      · rw [if_neg c, if_neg c, w_lt, nI_1]) (fun u s H => ⟨s, by
    show pX10_rowReady_l5 E g h z p (nI n) (u + 1) s (nI n) = _
    rw [pX10_rowReady_l5, pX10_rowReady_b5, if_pos (nI_le (Nat.le_refl n) (by omega))], H⟩) n 0 FUEL 0 (by omega) (by unfold FUEL; omega) rfl
  obtain ⟨r, q1, rfl⟩ := this
  unfold pX10_rowReady
  rw [w_tg A.1]
  exact q1
def bgT (F : Nat → Nat → Nat) (f : Nat → Nat) (n : Nat) : Nat := max (max (max (max (max (F 0 8) (F 0 9)) (if isEl (f 0) then F 3 (unN (f 0)) else 0)) (if f 8 = 1 ∨ isCp (f 0) ∨ f 0 = 20 ∨ f 0 = 21 ∨ f 0 = 22 then F 0 11 else 0)) (if isCp (f 0) ∨ f 0 = 20 then F 0 12 else 0)) (if f 0 = 21 ∨ isFo (f 0) then sup0 (rrF F f) n else 0)
theorem bgT_le {F : Nat → Nat → Nat} {f : Nat → Nat} {T : Nat} (hF : ∀ a j, F a j ≤ T) (n : Nat) : bgT F f n ≤ T ∧ F 0 8 ≤ bgT F f n := by
  have h1 := hF 0 8
  have h2 := hF 0 9
  have h3 := hF 3 (unN (f 0))
  have h4 := hF 0 11
  have h5 := hF 0 12
  have h6 := sup0_le (f := rrF F f) (rrF_le hF) n
  unfold bgT
  split <;> split <;> split <;> split <;> omega
def bgF (F : Nat → Nat → Nat) (t : Nat) : Nat → Nat → Nat := up2 (up2 F 0 8 (t + 1)) 0 0 (max (F 0 0) t)
theorem t_begin (K : EOK E b L xs op st bt aL aS aO) (A : TimA g (hR h) z) (C : TC z h F G) {p ik n T : Nat} {f : Nat → Nat} (I : IC op g h p f) (hp : p < z ∨ z + 6 < p) (hf : FOK f) (hk : ik < 30) (hn : n ≤ 16) (hF : ∀ a j, F a j ≤ T) (hT : T + 100 < 2 ^ 31) :
    ∃ h', pX10_beginInstr E g h z (nI ik) p (nI n) = some h' ∧ TC z h' (bgF F (bgT F f n)) (up2 (up2 G 1 ik (nI (bgT F f n))) 2 ik (-1)) ∧ TFr z h h' := by
  have T60 := k_tag K hf.1
  have u4 := unN_lt (f 0)
  have e8 := I.2.2 8 (by decide) (by decide)
  have e26 : E.1 26 = .ref (op 21) := e_st K 21 (by decide)
  have e28 : E.1 28 = .ref (op 23) := e_st K 23 (by decide)
  have e29 : E.1 29 = .ref (op 24) := e_st K 24 (by decide)
  have h8 := hF 0 8
  have h9 := hF 0 9
  have h00 := hF 0 0
  have h3 := hF 3 (unN (f 0))
  have h11 := hF 0 11
  have h12 := hF 0 12
  have hs := sup0_le (f := rrF F f) (rrF_le hF) n
  have c137 : ∀ t, t ≤ T → ∃ h', pX10_beginInstr_b137 E g z (nI ik) p (nI n) (nI t) h = some h' ∧ TC z h' (bgF F t) (up2 (up2 G 1 ik (nI t)) 2 ik (-1)) ∧ TFr z h h' := fun t ht => by
    unfold pX10_beginInstr_b137
    have C1 := C.e8 (v := t + 1) (x := nI t) (pk_sub (a := t + 1) (b := 1) (by omega)).symm
    rw [w_lt, t_note (h := sI h z 8 (nI t)) (c := F 0 0) A (by rw [C1.1 0 (by decide), up2_n (by omega)]) (by omega) (by omega), w_bd, if_neg (nI_pos (by omega)), w_lt]
    rw [show hR (sI (sI h z 8 (nI t)) z 0 (nI (max (F 0 0) t))) = hR h from rfl, A.2.1.1, w_nn, w_tg A.2.1.2.1, A.2.1.2.2, if_neg (show ¬ Int32.ofNat 30 ≤ nI ik from nI_ge hk (by decide)), w_lt, A.2.2.1.1, w_nn, w_tg A.2.2.1.2.1, A.2.2.1.2.2, if_neg (show ¬ Int32.ofNat 30 ≤ nI ik from nI_ge hk (by decide)), w_lt, w_nn, w_tg A.2.1.2.1, A.2.1.2.2, w_ix hk (by decide), nI_clamp (by omega), w_lt, w_lt, hR_sI]
    rw [show hR (sI (sI h z 8 (nI t)) z 0 (nI (max (F 0 0) t))) = hR h from rfl, A.2.2.1.1, w_nn, w_tg A.2.2.1.2.1, A.2.2.1.2.2, w_ix hk (by decide), w_lt]
    exact ⟨_, rfl, ((C1.o (by decide)).bg (by decide) (by decide)).bg (by decide) (by decide), ((((TFr.rf z h).o (by decide)).o (by decide)).a (by decide) (by decide)).a (by decide) (by decide)⟩
  have c124 : ∀ t, t ≤ T → pX10_beginInstr_b124 E g z (nI ik) p (nI n) (nI t) h = pX10_beginInstr_b137 E g z (nI ik) p (nI n) (nI (max t (sup0 (rrF F f) n))) h := fun t ht => by
    unfold pX10_beginInstr_b124
    rw [t_rowReady K A C I hf hn hF (by omega), w_bd, max_nI (by omega) (by omega), w_lt]
  have c94 : ∀ t, t ≤ T → pX10_beginInstr_b94 E g z (nI ik) p (nI n) (nI t) h = pX10_beginInstr_b137 E g z (nI ik) p (nI n) (nI (max t (if f 0 = 21 ∨ isFo (f 0) then sup0 (rrF F f) n else 0))) h := fun t ht => by
    unfold pX10_beginInstr_b94
    simp only [w_tg I.1, w_lt, e26, e28, e29, w_kR, I.2.1]
    have hf28 : f 0 < 28 := Nat.lt_of_lt_of_le hf.1 (by decide)
    simp only [eq_op K hf28 (show 21 < 28 by decide), eq_op K hf28 (show 23 < 28 by decide), eq_op K hf28 (show 24 < 28 by decide)]
    rw [c124 t ht]
    by_cases c1 : f 0 = 21
    · rw [if_pos c1, if_pos (Or.inl c1)]
    · by_cases c2 : f 0 = 23
      · rw [if_neg c1, if_pos c2, if_pos (Or.inr (Or.inl c2))]
      · by_cases c3 : f 0 = 24
        · rw [if_neg c1, if_neg c2, if_pos c3, if_pos (Or.inr (Or.inr c3))]
        · rw [if_neg c1, if_neg c2, if_neg c3, if_neg (by omega), Nat.max_zero]
  have c71 : ∀ t, t ≤ T → pX10_beginInstr_b71 E g z (nI ik) p (nI n) (nI t) h = pX10_beginInstr_b94 E g z (nI ik) p (nI n) (nI (max t (if isCp (f 0) ∨ f 0 = 20 then F 0 12 else 0))) h := fun t ht => by
    unfold pX10_beginInstr_b71
    rw [w_tg I.1, w_lt, I.2.1, w_nn, w_tg T60, d_wM K hf.1, w_bd]
    simp only [b01, ite_not]
    by_cases c : isCp (f 0) ∨ f 0 = 20
    · rw [if_pos c, if_pos c, C.1 12 (by decide), max_nI (by omega) (by omega), w_lt]
    · rw [if_neg c, if_neg c, Nat.max_zero]
  have c53 : ∀ t, t ≤ T → pX10_beginInstr_b53 E g z (nI ik) p (nI n) (nI t) h = pX10_beginInstr_b71 E g z (nI ik) p (nI n) (nI (max t (if f 8 = 1 ∨ isCp (f 0) ∨ f 0 = 20 ∨ f 0 = 21 ∨ f 0 = 22 then F 0 11 else 0))) h := fun t ht => by
    have um : pX2_usesMask E g h p = some (if f 8 = 1 ∨ isCp (f 0) ∨ f 0 = 20 ∨ f 0 = 21 ∨ f 0 = 22 then 1 else 0) := by
      unfold pX2_usesMask pX2_usesMask_b19
      rw [w_tg I.1, e8, w_lt, I.2.1, w_nn, w_tg T60, d_aM K hf.1, w_bd]
      simp only [b01, ite_not]
      by_cases c8 : f 8 = 1
      · rw [if_neg (by rw [c8]; decide), if_pos (Or.inl c8)]
      · rw [if_pos (by rw [show f 8 = 0 by have := hf.2.2.2.2.2.2.2.2.2.1; omega]; rfl)]
        by_cases c : isCp (f 0) ∨ f 0 = 20 ∨ f 0 = 21 ∨ f 0 = 22
        · rw [if_pos c, if_pos (Or.inr c)]
        · rw [if_neg c, if_neg (fun q => q.elim c8 c)]
    unfold pX10_beginInstr_b53
    rw [w_tg I.1, um, w_bd]
    simp only [b01, ite_not]
    by_cases c : f 8 = 1 ∨ isCp (f 0) ∨ f 0 = 20 ∨ f 0 = 21 ∨ f 0 = 22
    · rw [if_pos c, if_pos c, C.1 11 (by decide), max_nI (by omega) (by omega), w_lt]
    · rw [if_neg c, if_neg c, Nat.max_zero]
  have e80 : hI h z 8 + 1 = nI (F 0 8) := by rw [C.2.1, Int32.sub_add_cancel]
  have cA : pX10_beginInstr E g h z (nI ik) p (nI n) = pX10_beginInstr_b53 E g z (nI ik) p (nI n) (nI (max (max (F 0 8) (F 0 9)) (if isEl (f 0) then F 3 (unN (f 0)) else 0))) h := by
    unfold pX10_beginInstr
    rw [w_tg A.1, e80, C.1 9 (by decide), max_nI (by omega) (by omega), w_lt, w_tg I.1, w_lt, I.2.1, w_nn, w_tg T60, k_unit K hf.1, w_lt]
    by_cases c : isEl (f 0)
    · rw [if_pos c, if_pos c, if_neg (nI_pos (by omega)), w_lt, A.2.2.2.1.1, w_nn, w_tg A.2.2.2.1.2.1, A.2.2.2.1.2.2, if_neg (show ¬ Int32.ofNat 4 ≤ nI (unN (f 0)) from nI_ge u4 (by decide)), w_lt, w_nn, w_tg A.2.2.2.1.2.1, A.2.2.2.1.2.2, w_ix u4 (by decide), nI_clamp (by omega), C.2.2.1 3 (unN (f 0)) (by decide) (by decide) u4, max_nI (by omega) (by omega), w_lt]
    · rw [if_neg c, if_neg c, if_pos (by decide), Nat.max_zero]
  have l1 : max (max (F 0 8) (F 0 9)) (if isEl (f 0) then F 3 (unN (f 0)) else 0) ≤ T := by split <;> omega
  rw [cA, c53 _ l1, c71 _ (by clear c53 c71 c94 c124 c137; grind), c94 _ (by clear c53 c71 c94 c124 c137; grind)]
  exact c137 _ (bgT_le hF n).1
theorem t_beginEnd (A : TimA g (hR h) z) (C : TC z h F G) {T : Nat} (hF : ∀ a j, F a j ≤ T) (hT : T + 100 < 2 ^ 31) : ∃ h', pX10_beginEnd g h z = some h' ∧ TC z h' (bgF F (max (F 0 8) (F 0 9))) G ∧ TFr z h h' := by
  have h8 := hF 0 8
  have h9 := hF 0 9
  have h00 := hF 0 0
  have e80 : hI h z 8 + 1 = nI (F 0 8) := by rw [C.2.1, Int32.sub_add_cancel]
  have C1 := C.e8 (v := max (F 0 8) (F 0 9) + 1) (x := nI (max (F 0 8) (F 0 9))) (pk_sub (a := max (F 0 8) (F 0 9) + 1) (b := 1) (by omega)).symm
  unfold pX10_beginEnd
  rw [w_tg A.1, e80, C.1 9 (by decide), max_nI (by omega) (by omega), w_lt, hI_s, t_note (h := sI h z 8 (nI (max (F 0 8) (F 0 9)))) (c := F 0 0) A (by rw [C1.1 0 (by decide), up2_n (by omega)]) (by omega) (by omega), w_bd]
  exact ⟨_, rfl, C1.o (by decide), ((TFr.rf z h).o (by decide)).o (by decide)⟩
theorem t_flip (A : TimA g (hR h) z) (C : TC z h F G) {t T : Nat} (hF : ∀ a j, F a j ≤ T) (hT : T + 100 < 2 ^ 31) (h8 : F 0 8 = t + 1) : ∃ h', pX10_flip g h z = some h' ∧ TC z h' (up2 (up2 (up2 F 0 12 (max (F 0 12) t)) 0 11 (t + 1)) 0 0 (max (F 0 0) (t + 1))) G ∧ TFr z h h' := by
  have u8 := hF 0 8
  have u12 := hF 0 12
  have h00 := hF 0 0
  have e8 : hI h z 8 = nI t := by rw [C.2.1, h8]; exact pk_sub (a := t + 1) (b := 1) (by omega)
  have C1 := C.o (j := 12) (v := max (F 0 12) t) (by decide)
  have C2 := C1.o (j := 11) (v := t + 1) (by decide)
  unfold pX10_flip
  rw [w_tg A.1, e8, C.1 12 (by decide), max_nI (by omega) (by omega), w_lt, hI_sI, if_pos rfl, ud_n (by decide), e8, nI_1, w_lt, hI_s, t_note (h := sI (sI h z 12 (nI (max (F 0 12) t))) z 11 (nI (t + 1))) (c := F 0 0) A (by rw [C2.1 0 (by decide), up2_n (by omega), up2_n (by omega)]) (by omega) (by omega), w_bd]
  exact ⟨_, rfl, C2.o (by decide), (((TFr.rf z h).o (by decide)).o (by decide)).o (by decide)⟩
def enF (F : Nat → Nat → Nat) (e : Nat) : Nat → Nat → Nat := up2 (up2 F 0 9 e) 0 0 (max (F 0 0) e)
theorem t_count (A : TimA g (hR h) z) (C : TC z h F G) {t T ik : Nat} (hk : ik < 30) (hF : ∀ a j, F a j ≤ T) (hT : T + 100 < 2 ^ 31) (h8 : F 0 8 = t + 1) : ∃ h', pX10_count g h z (nI ik) = some h' ∧ TC z h' (enF (up2 F 0 12 (max (F 0 12) t)) (t + 1)) (up2 G 2 ik (nI (t + 1))) ∧ TFr z h h' := by
  have u8 := hF 0 8
  have u12 := hF 0 12
  have h00 := hF 0 0
  have e8 : hI h z 8 = nI t := by rw [C.2.1, h8]; exact pk_sub (a := t + 1) (b := 1) (by omega)
  have C1 := C.o (j := 12) (v := max (F 0 12) t) (by decide)
  have C2 := C1.o (j := 9) (v := t + 1) (by decide)
  unfold pX10_count
  rw [w_tg A.1, e8, C.1 12 (by decide), max_nI (by omega) (by omega), w_lt, hI_sI, if_pos rfl, ud_n (by decide), e8, nI_1, w_lt, hI_s, t_endAt (h := sI (sI h z 12 (nI (max (F 0 12) t))) z 9 (nI (t + 1))) (c := F 0 0) A (by rw [C2.1 0 (by decide), up2_n (by omega), up2_n (by omega)]) (by omega) hk (by omega), w_bd]
  exact ⟨_, rfl, (C2.o (by decide)).bg (by decide) (by decide), ((((TFr.rf z h).o (by decide)).o (by decide)).o (by decide)).a (by decide) (by decide)⟩
def foF (F : Nat → Nat → Nat) (d n t : Nat) : Nat → Nat → Nat := fun a j => if a = 5 ∧ 16 * d ≤ j ∧ j < 16 * d + n then max (F 5 j) t else F a j
theorem foF_1 (F : Nat → Nat → Nat) (d n t : Nat) (a j : Nat) : foF F d (n + 1) t a j = up2 (foF F d n t) 5 (16 * d + n) (max (foF F d n t 5 (16 * d + n)) t) a j := by
  by_cases e : a = 5 ∧ j = 16 * d + n
  · rw [e.1, e.2, up2_s]
    unfold foF
    rw [if_pos ⟨rfl, by omega, by omega⟩, if_neg (by omega)]
  · rw [up2_n e]
    unfold foF
    by_cases c : a = 5 ∧ 16 * d ≤ j ∧ j < 16 * d + n
    · rw [if_pos c, if_pos ⟨c.1, c.2.1, by omega⟩]
    · rw [if_neg c, if_neg (fun q => c ⟨q.1, q.2.1, by have := q.2.2; have := q.1; omega⟩)]
theorem foF_0 (F : Nat → Nat → Nat) (d t : Nat) (a j : Nat) : foF F d 0 t a j = F a j := by
  unfold foF
  rw [if_neg (by omega)]
theorem foF_le {F : Nat → Nat → Nat} {d n t T : Nat} (hF : ∀ a j, F a j ≤ T) (ht : t ≤ T) (a j : Nat) : foF F d n t a j ≤ T := by
  have h1 := hF a j
  have h2 := hF 5 j
  unfold foF
  split <;> omega
theorem foF_n {F : Nat → Nat → Nat} {d n t a j : Nat} (ha : a ≠ 5) : foF F d n t a j = F a j := by unfold foF; rw [if_neg (fun q => ha q.1)]
theorem t_fold (A0 : TimA g (hR h) z) (C0 : TC z h F G) {t T ik p n m : Nat} {f : Nat → Nat} (I0 : IC op g h p f) (hp : p < z ∨ z + 6 < p) (hf : FOK f) (hk : ik < 30) (hn : n ≤ 16) (hm : m ≤ 16) (hF : ∀ a j, F a j ≤ T) (hT : T + 100 < 2 ^ 31) (h8 : F 0 8 = t + 1) : ∃ h', pX10_fold g h z (nI ik) p (nI n) (nI m) = some h' ∧ TC z h' (enF (foF F (f 1) n t) (t + 3 * m)) (up2 G 2 ik (nI (t + 3 * m))) ∧ TFr z h h' := by
  have u8 := hF 0 8
  have h00 := hF 0 0
  have := loopN (L := fun u j x => pX10_fold_l3 g z (nI ik) p (nI n) (nI m) u (nI j) x) (N := n) (Inv := fun j x => TC z x (foF F (f 1) j t) G ∧ TFr z h x) (Post := fun x => TC z x (enF (foF F (f 1) n t) (t + 3 * m)) (up2 G 2 ik (nI (t + 3 * m))) ∧ TFr z h x) (fun u j x hj H => by
      obtain ⟨C, fr⟩ := H
      have A : TimA g (hR x) z := by rw [fr.1]; exact A0
      have I := I0.fr fr hp
      have e8 : hI x z 8 = nI t := by rw [C.2.1, foF_n (by decide), h8]; exact pk_sub (a := t + 1) (b := 1) (by omega)
      have l5 := foF_le (d := f 1) (n := j) (t := t) hF (by omega) 5 (16 * f 1 + j)
      refine ⟨_, ?_, TC.to (C.a (a := 5) (k := 16 * f 1 + j) (v := max (foF F (f 1) j t 5 (16 * f 1 + j)) t) (by decide) (by decide)) (fun a i => foF_1 F (f 1) j t a i) (fun _ _ => rfl), fr.a (by decide) (by decide)⟩
      show pX10_fold_l3 g z (nI ik) p (nI n) (nI m) (u + 1) (nI j) x = _
      rw [pX10_fold_l3, pX10_fold_b3, if_neg (nI_ge hj (by omega)), w_tg I.1, I.2.2 1 (by decide) (by decide), e8, t_readNow A C hf.2.1 (by omega) (by omega) (by omega), w_bd, w_lt, nI_1]) (fun u x H => by
    obtain ⟨C, fr⟩ := H
    have A : TimA g (hR x) z := by rw [fr.1]; exact A0
    have e8 : hI x z 8 = nI t := by rw [C.2.1, foF_n (by decide), h8]; exact pk_sub (a := t + 1) (b := 1) (by omega)
    have C1 := C.o (j := 9) (v := t + 3 * m) (by decide)
    refine ⟨_, ?_, TC.to ((C1.o (j := 0) (v := max (F 0 0) (t + 3 * m)) (by decide)).bg (a := 2) (k := ik) (x := nI (t + 3 * m)) (by decide) (by decide)) (fun a i => ?_) (fun _ _ => rfl), ((fr.o (by decide)).o (by decide)).a (by decide) (by decide)⟩
    · show pX10_fold_l3 g z (nI ik) p (nI n) (nI m) (u + 1) (nI n) x = _
      rw [pX10_fold_l3, pX10_fold_b3, if_pos (nI_le (Nat.le_refl n) (by omega)), e8, show (3 : Int32) = nI 3 from rfl, pk_mul, nI_add, w_lt, hI_s, t_endAt (h := sI x z 9 (nI (t + 3 * m))) (c := F 0 0) A (by rw [C1.1 0 (by decide), up2_n (by omega), foF_n (by decide)]) (by omega) hk (by omega), w_bd]
    · unfold enF
      rw [foF_n (show (0 : Nat) ≠ 5 by decide)]) n 0 FUEL h (by omega) (by unfold FUEL; omega) ⟨C0.to (fun a j => foF_0 F (f 1) t a j) (fun _ _ => rfl), TFr.rf z h⟩
  obtain ⟨r, q1, q2, q3⟩ := this
  refine ⟨r, ?_, q2, q3⟩
  unfold pX10_fold
  rw [w_tg A0.1]
  exact q1
end BEG
