/-! the reference's writeSet -/
section WRS
variable {B : Nat} {g : MT} {h : CT}
theorem ways_tab2 : ∀ k, k < 27 → (((opD k).2.2.2.2 &&& 2 = 0) ↔ (pX13_writesD (nI k) = 0 ∧ ¬ k = 21)) ∧ (((opD k).2.2.2.2 &&& 512 = 0) ↔ ¬ (k = 22 ∨ k = 23 ∨ k = 24)) ∧ (((opD k).2.2.2.2 &&& 32 = 0) ↔ (pX13_isCompared (nI k) = 0 ∧ ¬ k = 20)) ∧ (((opD k).2.2.2.2 &&& 128 = 0) ↔ ¬ (k = 4 ∨ k = 6)) := by decide +kernel
theorem ways_tab3 : ∀ k, k < 27 → ((pX13_isFolded (nI k) = 0) ↔ ¬ (k = 23 ∨ k = 24)) ∧ (pX13_writesD (nI k) = 0 ∨ k = 1 ∨ k = 2 ∨ k = 3 ∨ k = 5 ∨ (7 ≤ k ∧ k ≤ 16)) ∧ (pX13_isCompared (nI k) = 0 ∨ (17 ≤ k ∧ k ≤ 19)) ∧ (¬ k = 0 ∨ (pX13_writesD (nI k) = 0 ∧ pX13_isCompared (nI k) = 0)) := by decide +kernel
theorem m_writes (S : Sh B g) (p2 : PtR B (hR h)) {i k : Nat} (hi : i ≤ 170) (hk : k < 27) {d s : Int32} (e0 : hI h (B + 192) (6 + 8 * i + 0) = nI k) (e1 : hI h (B + 192) (6 + 8 * i + 1) = d) (e5 : 22 ≤ k → k ≤ 24 → hI h (B + 192) (6 + 8 * i + 5) = s) :
    pX13_writeSet g h (B + 187) (nI i) = some (changesC k d s) := by
  have a0 : pX13_at g h (B + 187) (nI i) 0 = some (nI k) := by rw [← e0]; exact m_at S p2 hi (f := 0) (by decide)
  have a1 : pX13_at g h (B + 187) (nI i) 1 = some d := by rw [← e1]; exact m_at S p2 hi (f := 1) (by decide)
  have q : ∀ j, j < 2 ^ 31 → (nI k = nI j) = (k = j) := fun j hj => propext (nI_eq (by omega) hj)
  have q0 : (nI k = 0) = (k = 0) := q 0 (by decide)
  have q4 : (nI k = 4) = (k = 4) := q 4 (by decide)
  have q6 : (nI k = 6) = (k = 6) := q 6 (by decide)
  have q20 : (nI k = 20) = (k = 20) := q 20 (by decide)
  have q21 : (nI k = 21) = (k = 21) := q 21 (by decide)
  have q22 : (nI k = 22) = (k = 22) := q 22 (by decide)
  obtain ⟨t2, t512, t32, t128⟩ := ways_tab2 k hk
  obtain ⟨tf, tw', tc', t0'⟩ := ways_tab3 k hk
  have tw : ¬ pX13_writesD (nI k) = 0 → k = 1 ∨ k = 2 ∨ k = 3 ∨ k = 5 ∨ (7 ≤ k ∧ k ≤ 16) := fun z => tw'.resolve_left z
  have tc : ¬ pX13_isCompared (nI k) = 0 → 17 ≤ k ∧ k ≤ 19 := fun z => tc'.resolve_left z
  have t0 : k = 0 → pX13_writesD (nI k) = 0 ∧ pX13_isCompared (nI k) = 0 := fun z => t0'.resolve_left (fun y => y z)
  have b82 : 22 ≤ k → k ≤ 24 → pX13_writeSet_b82 g h (B + 187) (nI i) = some (bitI (6 + s)) := fun h1 h2 => by
    have a5 : pX13_at g h (B + 187) (nI i) 5 = some s := by rw [← e5 h1 h2]; exact m_at S p2 hi (f := 5) (by decide)
    unfold pX13_writeSet_b82; rw [a5, w_bd]; rfl
  have b28 : pX13_writeSet_b28 g h (B + 187) (nI i) = some (bitI d) := by unfold pX13_writeSet_b28; rw [a1, w_bd]; rfl
  unfold pX13_writeSet changesC wayB
  simp only [w_tg (st_187 S), a0, w_bd, q0, q4, q6, q20, q21, q22, b28, t2, t512, t32, t128, tf]
  have hz : ∀ y : Int32, y ||| 0 = y := fun y => Int32.or_zero
  have zh : ∀ y : Int32, 0 ||| y = y := fun y => Int32.zero_or
  by_cases c0 : k = 0
  · obtain ⟨u1, u2⟩ := t0 c0
    have n1 : ¬ k = 21 := by omega
    have n2 : ¬ (k = 22 ∨ k = 23 ∨ k = 24) := by omega
    have n3 : ¬ k = 20 := by omega
    have n4 : ¬ (k = 4 ∨ k = 6) := by omega
    rw [if_pos c0, if_pos c0, if_pos (show pX13_writesD (nI k) = 0 ∧ ¬ k = 21 from ⟨u1, n1⟩), if_pos n2, if_pos (show pX13_isCompared (nI k) = 0 ∧ ¬ k = 20 from ⟨u2, n3⟩), if_pos n4]
    simp only [hz]
  · rw [if_neg c0, if_neg c0]
    by_cases c1 : pX13_writesD (nI k) = 0
    · rw [if_pos c1]
      by_cases c21 : k = 21
      · have n2 : ¬ (k = 22 ∨ k = 23 ∨ k = 24) := by omega
        have n4 : ¬ (k = 4 ∨ k = 6) := by omega
        have u2 : pX13_isCompared (nI k) = 0 := Classical.byContradiction fun z => by have := tc z; omega
        rw [if_pos c21, if_neg (fun z => z.2 c21), if_pos n2, if_pos (show pX13_isCompared (nI k) = 0 ∧ ¬ k = 20 from ⟨u2, by omega⟩), if_pos n4]
        simp only [hz, zh]
      · rw [if_neg c21, if_pos (show pX13_writesD (nI k) = 0 ∧ ¬ k = 21 from ⟨c1, c21⟩)]
        by_cases c2 : pX13_isCompared (nI k) = 0
        · rw [if_pos c2]
          by_cases c20 : k = 20
          · have n2 : ¬ (k = 22 ∨ k = 23 ∨ k = 24) := by omega
            have n4 : ¬ (k = 4 ∨ k = 6) := by omega
            rw [if_pos c20, if_pos n2, if_neg (fun z => z.2 c20), if_pos n4]
            simp only [hz, zh]
          · rw [if_neg c20, if_pos (show pX13_isCompared (nI k) = 0 ∧ ¬ k = 20 from ⟨c2, c20⟩)]
            by_cases c4 : k = 4
            · rw [if_pos c4, if_pos (by omega), if_neg (fun z => z (Or.inl c4))]; simp only [hz, zh]
            · rw [if_neg c4]
              by_cases c6 : k = 6
              · rw [if_pos c6, if_pos (by omega), if_neg (fun z => z (Or.inr c6))]; simp only [hz, zh]
              · rw [if_neg c6, if_pos (show ¬ (k = 4 ∨ k = 6) by omega)]
                by_cases c22 : k = 22
                · rw [if_pos c22, if_neg (fun z => z (Or.inl c22)), b82 (by omega) (by omega)]; simp only [hz, zh]
                · rw [if_neg c22]
                  by_cases c23 : k = 23 ∨ k = 24
                  · rw [if_neg (fun z => z c23), if_neg (fun z => z (Or.inr c23)), b82 (by omega) (by omega)]; simp only [hz, zh]
                  · rw [if_pos c23, if_pos (by omega)]; simp only [hz, zh]
        · have := tc c2
          rw [if_neg c2, if_pos (by omega), if_neg (fun z => c2 z.1), if_pos (by omega)]
          simp only [hz, zh]
    · have := tw c1
      have u2 : pX13_isCompared (nI k) = 0 := Classical.byContradiction fun z => by have := tc z; omega
      rw [if_neg c1, if_neg (fun z => c1 z.1), if_pos (show ¬ (k = 22 ∨ k = 23 ∨ k = 24) by omega), if_pos (show pX13_isCompared (nI k) = 0 ∧ ¬ k = 20 from ⟨u2, by omega⟩), if_pos (show ¬ (k = 4 ∨ k = 6) by omega)]
      simp only [hz, zh]
end WRS
