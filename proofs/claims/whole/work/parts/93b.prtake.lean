/-! an element is TAKEN, in the reference -/
section RTK
variable {B : Nat} {g : MT} {h h' h1 h2 : CT} {F : Nat → Nat → Nat} {G : Nat → Nat → Int32} {y : Nat} {ik : Nat} {f : Nat → Nat}
theorem r_bankv {x : Int32} {Fk y w : Nat} (y1 : 1 ≤ y) (y2 : y ≤ 12) (hw : w < 2 ^ 30) (hF : Fk < 2 ^ 30) (u2 : (Fk = 0 ∧ x = -12) ∨ (y ≤ Fk ∧ x = nI (Fk - y))) : pJ9_max_7cf53 0 (x + nI y - nI w) = nI (max w Fk - w) ∧ pJ9_max_7cf53 (nI w) (x + nI y) = nI (max w Fk) := by
  rcases u2 with ⟨g1, g2⟩ | ⟨g1, g2⟩
  · have vi : (x + nI y).toInt = (y : Int) - 12 := by
      rw [g2, Int32.toInt_add, nI_toInt (by omega), show (-12 : Int32).toInt = -12 from rfl, Int.bmod_eq_of_le (by omega) (by omega)]; omega
    generalize x + nI y = v at vi
    have vT : (v - nI w).toInt = (y : Int) - 12 - w := by rw [Int32.toInt_sub, vi, nI_toInt (by omega), Int.bmod_eq_of_le (by omega) (by omega)]
    rw [show max w Fk = w by omega, Nat.sub_self]
    constructor
    · unfold pJ9_max_7cf53
      rw [if_neg (by rw [Int32.lt_iff_toInt_lt, vT, show (0 : Int32).toInt = 0 from rfl]; omega)]; rfl
    · unfold pJ9_max_7cf53
      rw [if_neg (by rw [Int32.lt_iff_toInt_lt, vi, nI_toInt (by omega)]; omega)]
  · have ve : x + nI y = nI Fk := by rw [g2, nI_add]; congr 1; omega
    rw [ve]
    refine ⟨?_, max_nI (by omega) (by omega)⟩
    rw [show (0 : Int32) = nI 0 from rfl, max_sub (by decide) (by omega) (by omega)]
    congr 1
    omega
theorem r_taken (S : Sh B g) (p2 : PtR B (hR h)) (C : TR B y h F G) (hk : ik < 30) (I : IM B h ik f) (hf : FOK f) (he : isEl (f 0)) {i k s t nb T : Nat} {last : Int32} (hi : i < 16) (hF : ∀ a j, F a j ≤ T) (hT : T + 100 < 2 ^ 30) (hs : pJ9_max_7cf53 (nI t) (last + 1) = nI s) (hsT : s ≤ T + 1)
    (nb1 : 1 ≤ nb) (nb2 : nb ≤ 16) (y1 : 1 ≤ y) (y2 : y ≤ 12) (eb : hI h (B + 192) 1 = nI nb) (ey : hI h (B + 192) 2 = nI y) (hpl : isMm (f 0) → ∃ q, pX13_placeOf g h (B + 187) (nI ik) (nI i) = some (nI q) ∧ q < 64 ∧ k = q % nb) :
    ∃ h', pX13_takenAt g h (B + 187) (nI ik) (nI i) (nI t) last = some (nI (tk2 F f i s k), h') ∧ TR B y h' (if isMm (f 0) then up2 (up2 F 0 1 (F 0 1 + (tk2 F f i s k - tk1 F f i s))) 6 k (tk2 F f i s k + y) else F) G ∧ RFr B h h' := by
  obtain ⟨a0, a1, a2, a3, a4, a5, a6, a7⟩ := im_at S p2 hk I
  obtain ⟨m1, m2, m3, m4, m5, m6, m7, m8, m9, m10⟩ := kt_m (f 0) hf.1
  have la := laN_le (f 0)
  have l1 := tk1_le (f := f) (i := i) hF hsT
  have q1 := hF 4 (16 * f 1 + i)
  have q2 := hF 4 (16 * f 2 + i)
  have q3 := hF 4 (16 * f 3 + i)
  have q4 := hF 5 (16 * f 1 + i)
  have q6 := hF 6 k
  have hc : 16 * f 1 + i < 96 := by have := hf.2.1; omega
  have w1 : ∀ t, t < 2 ^ 31 → pX13_waitsFor g h (B + 187) (nI (f 1)) (nI i) (nI t) = some (nI (max t (F 4 (16 * f 1 + i)))) := fun t ht => r_waits S p2 C hf.2.1 hi ht (by omega)
  have w2 : ∀ t, t < 2 ^ 31 → pX13_waitsFor g h (B + 187) (nI (f 2)) (nI i) (nI t) = some (nI (max t (F 4 (16 * f 2 + i)))) := fun t ht => r_waits S p2 C hf.2.2.1 hi ht (by omega)
  have w3 : ∀ t, t < 2 ^ 31 → pX13_waitsFor g h (B + 187) (nI (f 3)) (nI i) (nI t) = some (nI (max t (F 4 (16 * f 3 + i)))) := fun t ht => r_waits S p2 C hf.2.2.2.1 hi ht (by omega)
  have r4 : hI h (B + 194) (16 * f 1 + i) = nI (F 4 (16 * f 1 + i)) := C.2.2.1 4 _ (by decide) (by decide) hc
  have r5 : hI h (B + 195) (16 * f 1 + i) = nI (F 5 (16 * f 1 + i)) := C.2.2.1 5 _ (by decide) (by decide) hc
  -- the BANK
  have c143 : ∃ h', pX13_takenAt_b143 g (B + 187) (nI ik) (nI i) (nI t) last (nI (f 0)) (nI (tk1 F f i s)) h = some (nI (tk2 F f i s k), h') ∧ TR B y h' (if isMm (f 0) then up2 (up2 F 0 1 (F 0 1 + (tk2 F f i s k - tk1 F f i s))) 6 k (tk2 F f i s k + y) else F) G ∧ RFr B h h' := by
    unfold pX13_takenAt_b143
    simp only [m5, ite_not]
    by_cases c : isMm (f 0)
    · obtain ⟨q, p0, pq, rfl⟩ := hpl c
      have hkk : q % nb < 16 := by have := Nat.mod_lt q (show 0 < nb by omega); omega
      have e2 : tk2 F f i s (q % nb) = max (tk1 F f i s) (F 6 (q % nb)) := by unfold tk2; rw [if_pos c]
      have hnb : ¬ nI nb = 0 := nI_ne0 (by omega) (by omega)
      obtain ⟨v1, v2⟩ := r_bankv (w := tk1 F f i s) y1 y2 (by omega) (show F 6 (q % nb) < 2 ^ 30 by omega) (C.2.2.2.1 (q % nb) hkk)
      rw [if_pos c, p0, w_bd, w_lt, pr_187_19 p2, w_nn, w_tg (st_192 S), sl_192 S, show (1 : Int32) = nI 1 from rfl, w_ix (show 1 < 1476 by decide) (by decide), nI_clamp (show 1 < 2 ^ 31 by decide), eb, w_dvI hnb, bank_nI (by omega) (by omega) (by omega), w_lt, w_lt, pr_187_26 p2, w_nn, w_tg (st_197 S), sl_197 S, w_ix hkk (by decide), w_lt, w_nn, w_tg (st_192 S), sl_192 S, show (2 : Int32) = nI 2 from rfl, w_ix (show 2 < 1476 by decide) (by decide), nI_clamp (show 2 < 2 ^ 31 by decide), nI_clamp (show q % nb < 2 ^ 31 by omega), ey, w_lt, v1, show hI h (B + 187) 35 = nI (F 0 1) from C.1 1 (by decide), nI_add, w_lt, v2, w_lt, w_lt, hR_sI, pr_187_26 p2, w_nn, w_tg (st_197 S), sl_197 S, w_ix hkk (by decide), w_lt, if_pos c, e2]
      exact ⟨_, rfl, (C.o (j := 1) (by decide)).bank, ((RFr.rf B h).o (by decide)).a (by decide) (by decide)⟩
    · have e2 : tk2 F f i s k = tk1 F f i s := by unfold tk2; rw [if_neg c]
      rw [if_neg c, if_neg c, e2]
      exact ⟨h, rfl, C, RFr.rf B h⟩
  have c87 : ∀ u, u ≤ T + 1 → pX13_takenAt_b87 g (B + 187) (nI ik) (nI i) (nI t) last (nI (f 0)) (nI u) h = pX13_takenAt_b143 g (B + 187) (nI ik) (nI i) (nI t) last (nI (f 0)) (nI (max u (if wrD (f 0) then max (F 4 (16 * f 1 + i)) (F 5 (16 * f 1 + i)) + 1 - laN (f 0) else 0))) h := fun u hu => by
    unfold pX13_takenAt_b87
    simp only [m4, ite_not]
    by_cases c : wrD (f 0)
    · rw [if_pos c, if_pos c, a1, w_bd, r_cell, w_lt, w_lt, pr_187_23 p2, w_nn, w_tg (st_194 S), sl_194 S, w_ix hc (by decide), w_lt, pr_187_24 p2, w_nn, w_tg (st_195 S), sl_195 S, w_ix hc (by decide), nI_clamp (by omega), r4, r5, max_nI (by omega) (by omega), nI_1, m9, if_pos he, m10 he, max_sub (by omega) (by omega) (by omega), w_lt]
    · rw [if_neg c, if_neg c, Nat.max_zero]
  have c64 : ∀ u, u ≤ T + 1 → pX13_takenAt_b64 g (B + 187) (nI ik) (nI i) (nI t) last (nI (f 0)) (nI u) h = pX13_takenAt_b87 g (B + 187) (nI ik) (nI i) (nI t) last (nI (f 0)) (nI (max u (if rdD (f 0) then F 4 (16 * f 1 + i) else 0))) h := fun u hu => by
    unfold pX13_takenAt_b64
    simp only [m3, ite_not]
    by_cases c : rdD (f 0)
    · rw [if_pos c, if_pos c, a1, w_bd, w1 _ (by omega), w_bd]
    · rw [if_neg c, if_neg c, Nat.max_zero]
  have c41 : ∀ u, u ≤ T + 1 → pX13_takenAt_b41 g (B + 187) (nI ik) (nI i) (nI t) last (nI (f 0)) (nI u) h = pX13_takenAt_b64 g (B + 187) (nI ik) (nI i) (nI t) last (nI (f 0)) (nI (max u (if rdB (f 0) then F 4 (16 * f 3 + i) else 0))) h := fun u hu => by
    unfold pX13_takenAt_b41
    simp only [m2, ite_not]
    by_cases c : rdB (f 0)
    · rw [if_pos c, if_pos c, a3, w_bd, w3 _ (by omega), w_bd]
    · rw [if_neg c, if_neg c, Nat.max_zero]
  have c0 : pX13_takenAt g h (B + 187) (nI ik) (nI i) (nI t) last = pX13_takenAt_b41 g (B + 187) (nI ik) (nI i) (nI t) last (nI (f 0)) (nI (max s (if rdA (f 0) then F 4 (16 * f 2 + i) else 0))) h := by
    unfold pX13_takenAt
    rw [w_tg (st_187 S), a0, w_bd, hs, w_lt]
    simp only [m1, ite_not]
    by_cases c : rdA (f 0)
    · rw [if_pos c, if_pos c, a2, w_bd, w2 _ (by omega), w_bd]
    · rw [if_neg c, if_neg c, Nat.max_zero]
  have x1 : max s (if rdA (f 0) then F 4 (16 * f 2 + i) else 0) ≤ T + 1 := by split <;> omega
  have x2 : max (max s (if rdA (f 0) then F 4 (16 * f 2 + i) else 0)) (if rdB (f 0) then F 4 (16 * f 3 + i) else 0) ≤ T + 1 := by
    revert x1
    generalize max s (if rdA (f 0) then F 4 (16 * f 2 + i) else 0) = v
    intro x1
    split <;> omega
  have x3 : max (max (max s (if rdA (f 0) then F 4 (16 * f 2 + i) else 0)) (if rdB (f 0) then F 4 (16 * f 3 + i) else 0)) (if rdD (f 0) then F 4 (16 * f 1 + i) else 0) ≤ T + 1 := by
    revert x2
    generalize max (max s (if rdA (f 0) then F 4 (16 * f 2 + i) else 0)) (if rdB (f 0) then F 4 (16 * f 3 + i) else 0) = v
    intro x1
    split <;> omega
  rw [c0, c41 _ x1, c64 _ x2, c87 _ x3]
  have e1 : max (max (max (max s (if rdA (f 0) then F 4 (16 * f 2 + i) else 0)) (if rdB (f 0) then F 4 (16 * f 3 + i) else 0)) (if rdD (f 0) then F 4 (16 * f 1 + i) else 0)) (if wrD (f 0) then max (F 4 (16 * f 1 + i)) (F 5 (16 * f 1 + i)) + 1 - laN (f 0) else 0) = tk1 F f i s := by
    unfold tk1 opR
    generalize (if wrD (f 0) then max (F 4 (16 * f 1 + i)) (F 5 (16 * f 1 + i)) + 1 - laN (f 0) else 0) = v1
    generalize (if rdA (f 0) then F 4 (16 * f 2 + i) else 0) = v2
    generalize (if rdB (f 0) then F 4 (16 * f 3 + i) else 0) = v3
    generalize (if rdD (f 0) then F 4 (16 * f 1 + i) else 0) = v4
    omega
  rw [e1]
  exact c143
theorem r_readsAll (S : Sh B g) (p2 : PtR B (hR h)) (C : TR B y h F G) (hk : ik < 30) (I : IM B h ik f) (hf : FOK f) {i w : Nat} (hi : i < 16) (hF : ∀ a j, F a j < 2 ^ 31) (hw : w < 2 ^ 31) : ∃ h', pX13_readsAll g h (B + 187) (nI ik) (nI i) (nI w) = some h' ∧ TR B y h' (rdF F f i w) G ∧ RFr B h h' := by
  obtain ⟨m1, m2, m3, -⟩ := kt_m (f 0) hf.1
  have b48 : ∀ (h : CT) (F : Nat → Nat → Nat), PtR B (hR h) → TR B y h F G → IM B h ik f → (∀ a j, F a j < 2 ^ 31) → ∃ h', pX13_readsAll_b48 g (B + 187) (nI ik) (nI i) (nI w) (nI (f 0)) h = some h' ∧ TR B y h' (if rdD (f 0) then up2 F 5 (16 * f 1 + i) (max (F 5 (16 * f 1 + i)) w) else F) G ∧ RFr B h h' := fun h F p2 C I hF => by
    unfold pX13_readsAll_b48
    simp only [m3, ite_not]
    by_cases c : rdD (f 0)
    · rw [if_pos c, if_pos c, (im_at S p2 hk I).2.1, w_bd, r_reads S p2 C hf.2.1 hi hw (hF _ _), w_bd]
      exact ⟨_, rfl, C.a (a := 5) (by decide) (by decide), (RFr.rf B h).a (by decide) (by decide)⟩
    · rw [if_neg c, if_neg c]; exact ⟨h, rfl, C, RFr.rf B h⟩
  have b28 : ∀ (h : CT) (F : Nat → Nat → Nat), PtR B (hR h) → TR B y h F G → IM B h ik f → (∀ a j, F a j < 2 ^ 31) → ∃ h' F', pX13_readsAll_b28 g (B + 187) (nI ik) (nI i) (nI w) (nI (f 0)) h = some h' ∧ TR B y h' F' G ∧ RFr B h h' ∧ F' = (let F1 := if rdB (f 0) then up2 F 5 (16 * f 3 + i) (max (F 5 (16 * f 3 + i)) w) else F; if rdD (f 0) then up2 F1 5 (16 * f 1 + i) (max (F1 5 (16 * f 1 + i)) w) else F1) := fun h F p2 C I hF => by
    unfold pX13_readsAll_b28
    simp only [m2, ite_not]
    by_cases c : rdB (f 0)
    · rw [if_pos c, if_pos c, (im_at S p2 hk I).2.2.2.1, w_bd, r_reads S p2 C hf.2.2.2.1 hi hw (hF _ _), w_bd]
      have fr : RFr B h (sI h (B + 195) (16 * f 3 + i) (nI (max (F 5 (16 * f 3 + i)) w))) := (RFr.rf B h).a (by decide) (by decide)
      obtain ⟨h', q1, q2, q3⟩ := b48 (sI h (B + 195) (16 * f 3 + i) (nI (max (F 5 (16 * f 3 + i)) w))) _ p2 (C.a (a := 5) (by decide) (by decide)) (I.fr fr) (rd_le hF hw)
      exact ⟨h', _, q1, q2, fr.tr q3, rfl⟩
    · rw [if_neg c, if_neg c]
      obtain ⟨h', q1, q2, q3⟩ := b48 h F p2 C I hF
      exact ⟨h', _, q1, q2, q3, rfl⟩
  have main : ∃ h' F', pX13_readsAll g h (B + 187) (nI ik) (nI i) (nI w) = some h' ∧ TR B y h' F' G ∧ RFr B h h' ∧ F' = (let F0 := if rdA (f 0) then up2 F 5 (16 * f 2 + i) (max (F 5 (16 * f 2 + i)) w) else F; let F1 := if rdB (f 0) then up2 F0 5 (16 * f 3 + i) (max (F0 5 (16 * f 3 + i)) w) else F0; if rdD (f 0) then up2 F1 5 (16 * f 1 + i) (max (F1 5 (16 * f 1 + i)) w) else F1) := by
    unfold pX13_readsAll
    rw [w_tg (st_187 S), (im_at S p2 hk I).1, w_bd]
    simp only [m1, ite_not]
    by_cases c : rdA (f 0)
    · rw [if_pos c, if_pos c, (im_at S p2 hk I).2.2.1, w_bd, r_reads S p2 C hf.2.2.1 hi hw (hF _ _), w_bd]
      have fr : RFr B h (sI h (B + 195) (16 * f 2 + i) (nI (max (F 5 (16 * f 2 + i)) w))) := (RFr.rf B h).a (by decide) (by decide)
      obtain ⟨h', F', q1, q2, q3, q4⟩ := b28 (sI h (B + 195) (16 * f 2 + i) (nI (max (F 5 (16 * f 2 + i)) w))) _ p2 (C.a (a := 5) (by decide) (by decide)) (I.fr fr) (rd_le hF hw)
      exact ⟨h', F', q1, q2, fr.tr q3, q4⟩
    · rw [if_neg c, if_neg c]
      exact b28 h F p2 C I hF
  obtain ⟨h', F', q1, q2, q3, q4⟩ := main
  refine ⟨h', q1, q2.to (fun a j _ => ?_) (fun _ _ => rfl), q3⟩
  rw [q4]
  have u : ∀ (F : Nat → Nat → Nat) (c : Nat), up2 F 5 c (max (F 5 c) w) a j = if a = 5 ∧ j = c then max (F 5 j) w else F a j := fun F c => by
    unfold up2
    by_cases e : a = 5 ∧ j = c
    · rw [if_pos e, if_pos e, e.2]
    · rw [if_neg e, if_neg e]
  have v : ∀ (F : Nat → Nat → Nat) (c : Nat), up2 F 5 c (max (F 5 c) w) 5 j = if j = c then max (F 5 j) w else F 5 j := fun F c => by
    unfold up2
    by_cases e : j = c
    · rw [if_pos ⟨rfl, e⟩, if_pos e, e]
    · rw [if_neg (fun z => e z.2), if_neg e]
  by_cases a5 : a = 5
  · subst a5
    by_cases c1 : rdD (f 0) <;> by_cases c2 : rdA (f 0) <;> by_cases c3 : rdB (f 0) <;> simp only [rdF, c1, c2, c3, if_true, if_false, v, true_and, false_and, false_or, or_false] <;> (repeat' split) <;> omega
  · have e : rdF F f i w a j = F a j := by unfold rdF; rw [if_neg (fun z => a5 z.1)]
    rw [e]
    by_cases c1 : rdD (f 0) <;> by_cases c2 : rdA (f 0) <;> by_cases c3 : rdB (f 0) <;> simp only [c1, c2, c3, if_true, if_false, u, a5, false_and]
/-- up to READ; READY comes behind what the element does -/
def tkG (F : Nat → Nat → Nat) (f : Nat → Nat) (i s k y : Nat) : Nat → Nat → Nat := fun a j =>
  if a = 0 then (if j = 0 then max (F 0 0) (tk2 F f i s k) else if j = 1 then F 0 1 + (tk2 F f i s k - tk1 F f i s) else F 0 j)
  else if a = 5 then (if (rdD (f 0) ∧ j = 16 * f 1 + i) ∨ (rdA (f 0) ∧ j = 16 * f 2 + i) ∨ (rdB (f 0) ∧ j = 16 * f 3 + i) then max (F 5 j) (tk2 F f i s k) else F 5 j)
  else if a = 6 then (if isMm (f 0) ∧ j = k then tk2 F f i s k + y else F 6 j)
  else F a j
theorem r_take (S : Sh B g) (p2 : PtR B (hR h)) (C : TR B y h F G) (hk : ik < 30) (I : IM B h ik f) (hf : FOK f) (he : isEl (f 0)) {i k s t nb T : Nat} {last : Int32} (hi : i < 16) (hF : ∀ a j, F a j ≤ T) (hT : T + 100 < 2 ^ 30) (hs : pJ9_max_7cf53 (nI t) (last + 1) = nI s) (hsT : s ≤ T + 1)
    (nb1 : 1 ≤ nb) (nb2 : nb ≤ 16) (y1 : 1 ≤ y) (y2 : y ≤ 12) (eb : hI h (B + 192) 1 = nI nb) (ey : hI h (B + 192) 2 = nI y) (hpl : isMm (f 0) → ∃ q, pX13_placeOf g h (B + 187) (nI ik) (nI i) = some (nI q) ∧ q < 64 ∧ k = q % nb) :
    ∃ h1 h2 h3, pX13_takenAt g h (B + 187) (nI ik) (nI i) (nI t) last = some (nI (tk2 F f i s k), h1) ∧ pX13_lasts g h1 (B + 187) (nI (tk2 F f i s k)) = some h2 ∧ pX13_readsAll g h2 (B + 187) (nI ik) (nI i) (nI (tk2 F f i s k)) = some h3 ∧ TR B y h3 (tkG F f i s k y) G ∧ RFr B h h3 := by
  obtain ⟨h1, c1, c2, c3⟩ := r_taken S p2 C hk I hf he hi hF hT hs hsT nb1 nb2 y1 y2 eb ey hpl
  have l1 := tk1_le (f := f) (i := i) hF hsT
  have l2 := tk2_le (f := f) (i := i) (k := k) hF hsT
  generalize hw : tk2 F f i s k = w at *
  generalize hG : (if isMm (f 0) then up2 (up2 F 0 1 (F 0 1 + (w - tk1 F f i s))) 6 k (w + y) else F) = F1 at *
  have F1e : ∀ a j, a ≠ 6 → ¬ (a = 0 ∧ j = 1) → F1 a j = F a j := fun a j a1 a2 => by
    rw [← hG]
    split
    · rw [up2_n (by omega), up2_n (by omega)]
    · rfl
  have F101 : F1 0 1 = F 0 1 + (w - tk1 F f i s) := by
    rw [← hG]
    by_cases c : isMm (f 0)
    · rw [if_pos c, up2_n (by omega), up2_s]
    · have : tk2 F f i s k = tk1 F f i s := by unfold tk2; rw [if_neg c]
      rw [if_neg c]; omega
  have F16 : ∀ j, F1 6 j = if isMm (f 0) ∧ j = k then w + y else F 6 j := fun j => by
    rw [← hG]
    by_cases c : isMm (f 0)
    · rw [if_pos c]
      by_cases e : j = k
      · rw [e, up2_s, if_pos ⟨c, rfl⟩]
      · rw [up2_n (fun q => e q.2), up2_n (by omega), if_neg (fun q => e q.2)]
    · rw [if_neg c, if_neg (fun q => c q.1)]
  have h00 := hF 0 0
  have e00 : hI h1 (B + 187) 34 = nI (F 0 0) := by rw [← F1e 0 0 (by decide) (by decide)]; exact c2.1 0 (by decide)
  have C2 : TR B y (sI h1 (B + 187) 34 (nI (max (F 0 0) w))) (up2 F1 0 0 (max (F 0 0) w)) G := c2.o (j := 0) (by decide)
  have f2 : RFr B h (sI h1 (B + 187) 34 (nI (max (F 0 0) w))) := c3.o (by decide)
  have F1b : ∀ a j, up2 F1 0 0 (max (F 0 0) w) a j < 2 ^ 31 := fun a j => by
    have hh := hF a j
    have h01 := hF 0 1
    by_cases e1 : a = 0 ∧ j = 0
    · rw [e1.1, e1.2, up2_s]; omega
    · rw [up2_n e1, ← hG]
      by_cases c : isMm (f 0)
      · rw [if_pos c]
        unfold up2
        split
        · omega
        · split <;> omega
      · rw [if_neg c]; omega
  obtain ⟨h3, d1, d2, d3⟩ := r_readsAll (h := sI h1 (B + 187) 34 (nI (max (F 0 0) w))) S (by rw [hR_sI, c3.1]; exact p2) C2 hk (I.fr f2) hf (w := w) hi F1b (by omega)
  refine ⟨h1, _, h3, c1, r_lasts S e00 (by omega) (by omega), d1, d2.to (fun a j haj => ?_) (fun _ _ => rfl), f2.tr d3⟩
  rcases (show a = 0 ∨ a = 5 ∨ a = 6 ∨ (a ≠ 0 ∧ a ≠ 5 ∧ a ≠ 6) by omega) with rfl | rfl | rfl | ⟨n0, n5, n6⟩
  · unfold tkG rdF
    rw [if_pos rfl, hw, if_neg (show ¬ ((0 : Nat) = 5 ∧ _) from fun q => absurd q.1 (by decide))]
    by_cases j0 : j = 0
    · rw [if_pos j0, j0, up2_s]
    · rw [if_neg j0, up2_n (by omega)]
      by_cases j1 : j = 1
      · rw [if_pos j1, j1, F101]
      · rw [if_neg j1, F1e 0 j (by omega) (by omega)]
  · unfold tkG rdF
    rw [if_neg (by decide), if_pos rfl, hw]
    by_cases c : (rdD (f 0) ∧ j = 16 * f 1 + i) ∨ (rdA (f 0) ∧ j = 16 * f 2 + i) ∨ (rdB (f 0) ∧ j = 16 * f 3 + i)
    · rw [if_pos c, if_pos ⟨rfl, c⟩, up2_n (by omega), F1e 5 j (by omega) (by omega)]
    · rw [if_neg c, if_neg (fun q => c q.2), up2_n (by omega), F1e 5 j (by omega) (by omega)]
  · unfold tkG rdF
    rw [if_neg (by decide), if_neg (by decide), if_pos rfl, hw, if_neg (show ¬ ((6 : Nat) = 5 ∧ _) from fun q => absurd q.1 (by decide)), up2_n (by omega), F16]
  · unfold tkG rdF
    rw [if_neg n0, if_neg n5, if_neg n6, if_neg (fun q => n5 q.1), up2_n (fun q => n0 q.1), F1e a j n6 (fun q => n0 q.1)]
/-- READY -/
theorem r_ready (S : Sh B g) {i s k T : Nat} (C : TR B y h (tkG F f i s k y) G) (hwr : wrD (f 0)) (hf : FOK f) (hF : ∀ a j, F a j ≤ T) (hT : T + 100 < 2 ^ 30) (hs : s ≤ T + 1) : pX13_lasts g (sI h (B + 194) (16 * f 1 + i) (nI (tk2 F f i s k + laN (f 0)))) (B + 187) (nI (tk2 F f i s k + laN (f 0))) = some (sI (sI h (B + 194) (16 * f 1 + i) (nI (tk2 F f i s k + laN (f 0)))) (B + 187) 34 (nI (max (max (F 0 0) (tk2 F f i s k)) (tk2 F f i s k + laN (f 0)))))
    ∧ TR B y (sI (sI h (B + 194) (16 * f 1 + i) (nI (tk2 F f i s k + laN (f 0)))) (B + 187) 34 (nI (max (max (F 0 0) (tk2 F f i s k)) (tk2 F f i s k + laN (f 0))))) (tkF F f i s k y) G := by
  have l2 := tk2_le (f := f) (i := i) (k := k) hF hs
  have la := laN_le (f 0)
  have h00 := hF 0 0
  have e00 : hI h (B + 187) 34 = nI (max (F 0 0) (tk2 F f i s k)) := C.1 0 (by decide)
  generalize hw : tk2 F f i s k = w at *
  refine ⟨r_lasts S (by rw [hI_sI, if_neg (by omega)]; exact e00) (by omega) (by omega), TR.to ((C.a (a := 4) (k := 16 * f 1 + i) (v := w + laN (f 0)) (by decide) (by decide)).o (j := 0) (v := max (max (F 0 0) w) (w + laN (f 0))) (by decide)) (fun a j haj => ?_) (fun _ _ => rfl)⟩
  unfold tkF tkG up2
  rw [hw]
  grind
theorem tkG_F (hw : ¬ wrD (f 0)) {i s k : Nat} (a j : Nat) (h : ¬ (a = 0 ∧ j = 10)) : tkF F f i s k y a j = tkG F f i s k y a j := by
  unfold tkF tkG
  rw [if_neg hw]
  by_cases a0 : a = 0
  · rw [if_pos a0, if_pos a0]
    by_cases j0 : j = 0
    · rw [if_pos j0, if_pos j0]
    · rw [if_neg j0, if_neg j0]
      by_cases j1 : j = 1
      · rw [if_pos j1, if_pos j1]
      · rw [if_neg j1, if_neg j1, if_neg (fun q => h ⟨a0, q⟩)]
  · rw [if_neg a0, if_neg a0]
    by_cases a4 : a = 4
    · rw [if_pos a4, if_neg (fun q => hw q.1), if_neg (by omega), if_neg (by omega), a4]
    · rw [if_neg a4]
end RTK
