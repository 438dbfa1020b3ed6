/-! the kinds of INSTRUCTIONS: what they read and write, their UNIT and LATENCY, in both -/
section KND
abbrev rdA (k : Nat) : Prop := (7 ≤ k ∧ k ≤ 18) ∨ k = 21
abbrev rdB (k : Nat) : Prop := (7 ≤ k ∧ k ≤ 13) ∨ k = 5 ∨ k = 6
abbrev rdD (k : Nat) : Prop := k = 4 ∨ k = 6 ∨ (17 ≤ k ∧ k ≤ 19) ∨ k = 23 ∨ k = 24
abbrev wrD (k : Nat) : Prop := k = 1 ∨ k = 2 ∨ k = 3 ∨ k = 5 ∨ (7 ≤ k ∧ k ≤ 16)
abbrev isMm (k : Nat) : Prop := 3 ≤ k ∧ k ≤ 6
abbrev isIx (k : Nat) : Prop := k = 5 ∨ k = 6
abbrev isCp (k : Nat) : Prop := 17 ≤ k ∧ k ≤ 19
abbrev isEl (k : Nat) : Prop := (1 ≤ k ∧ k ≤ 19) ∨ k = 21
abbrev isFo (k : Nat) : Prop := k = 23 ∨ k = 24
def unN (k : Nat) : Nat := if 3 ≤ k ∧ k ≤ 6 then 0 else if k = 9 then 1 else if k = 10 ∨ k = 11 then 2 else 3
def laN (k : Nat) : Nat := if 3 ≤ k ∧ k ≤ 6 then 5 else if k = 9 then 4 else if k = 10 ∨ k = 11 then 7 else 3
theorem kt_c1 : ∀ k, k < 27 → (((opD k).2.2.2.2 &&& 1 = 0) ↔ ¬ rdD k) ∧ (((opD k).2.2.2.2 &&& 2 = 0) ↔ ¬ (wrD k ∨ k = 21)) ∧ (((opD k).2.2.2.2 &&& 4 = 0) ↔ ¬ rdA k) := by decide +kernel
theorem kt_c2 : ∀ k, k < 27 → (((opD k).2.2.2.2 &&& 8 = 0) ↔ ¬ rdB k) ∧ (((opD k).2.2.2.2 &&& 16 = 0) ↔ ¬ (k = 20 ∨ k = 21 ∨ k = 22)) ∧ (((opD k).2.2.2.2 &&& 32 = 0) ↔ ¬ (isCp k ∨ k = 20)) := by decide +kernel
theorem kt_c3 : ∀ k, k < 27 → (((opD k).2.2.2.2 &&& 48 = 0) ↔ ¬ (isCp k ∨ k = 20 ∨ k = 21 ∨ k = 22)) ∧ (((opD k).2.2.2.2 &&& 128 = 0) ↔ ¬ (k = 4 ∨ k = 6)) := by decide +kernel
theorem kt_c : ∀ k, k < 27 → (((opD k).2.2.2.2 &&& 1 = 0) ↔ ¬ rdD k) ∧ (((opD k).2.2.2.2 &&& 2 = 0) ↔ ¬ (wrD k ∨ k = 21)) ∧ (((opD k).2.2.2.2 &&& 4 = 0) ↔ ¬ rdA k) ∧ (((opD k).2.2.2.2 &&& 8 = 0) ↔ ¬ rdB k) ∧ (((opD k).2.2.2.2 &&& 16 = 0) ↔ ¬ (k = 20 ∨ k = 21 ∨ k = 22)) ∧ (((opD k).2.2.2.2 &&& 32 = 0) ↔ ¬ (isCp k ∨ k = 20)) ∧ (((opD k).2.2.2.2 &&& 48 = 0) ↔ ¬ (isCp k ∨ k = 20 ∨ k = 21 ∨ k = 22)) ∧ (((opD k).2.2.2.2 &&& 128 = 0) ↔ ¬ (k = 4 ∨ k = 6)) := fun k hk => by
  obtain ⟨a1, a2, a3⟩ := kt_c1 k hk
  obtain ⟨b1, b2, b3⟩ := kt_c2 k hk
  obtain ⟨c1, c2⟩ := kt_c3 k hk
  exact ⟨a1, a2, a3, b1, b2, b3, c1, c2⟩
theorem kt_u : ∀ k, k < 27 → (opD k).2.2.2.1 = if isEl k then nI (unN k) else -1 := by decide +kernel
theorem kt_m1 : ∀ k, k < 27 → (pX13_readsA (nI k) = 0 ↔ ¬ rdA k) ∧ (pX13_readsB (nI k) = 0 ↔ ¬ rdB k) ∧ (pX13_readsD (nI k) = 0 ↔ ¬ rdD k) := by decide +kernel
theorem kt_m2 : ∀ k, k < 27 → (pX13_writesD (nI k) = 0 ↔ ¬ wrD k) ∧ (pX13_isMemory (nI k) = 0 ↔ ¬ isMm k) ∧ (pX13_isIndexed (nI k) = 0 ↔ ¬ isIx k) := by decide +kernel
theorem kt_m3 : ∀ k, k < 27 → (pX13_isCompared (nI k) = 0 ↔ ¬ isCp k) ∧ (pX13_isFolded (nI k) = 0 ↔ ¬ isFo k) ∧ pX13_unitOf (nI k) = (if isEl k then nI (unN k) else -1) ∧ (isEl k → pX13_latencyOf (nI (unN k)) = nI (laN k)) := by decide +kernel
theorem kt_m : ∀ k, k < 27 → (pX13_readsA (nI k) = 0 ↔ ¬ rdA k) ∧ (pX13_readsB (nI k) = 0 ↔ ¬ rdB k) ∧ (pX13_readsD (nI k) = 0 ↔ ¬ rdD k) ∧ (pX13_writesD (nI k) = 0 ↔ ¬ wrD k) ∧ (pX13_isMemory (nI k) = 0 ↔ ¬ isMm k) ∧ (pX13_isIndexed (nI k) = 0 ↔ ¬ isIx k) ∧ (pX13_isCompared (nI k) = 0 ↔ ¬ isCp k) ∧ (pX13_isFolded (nI k) = 0 ↔ ¬ isFo k) ∧ pX13_unitOf (nI k) = (if isEl k then nI (unN k) else -1) ∧ (isEl k → pX13_latencyOf (nI (unN k)) = nI (laN k)) := fun k hk => by
  obtain ⟨a1, a2, a3⟩ := kt_m1 k hk
  obtain ⟨b1, b2, b3⟩ := kt_m2 k hk
  obtain ⟨c1, c2, c3, c4⟩ := kt_m3 k hk
  exact ⟨a1, a2, a3, b1, b2, b3, c1, c2, c3, c4⟩
theorem kt_l : ∀ u, u < 4 → ∀ k, k < 27 → isEl k → unN k = u → latV.getD u 0 = nI (laN k) := by decide +kernel
theorem unN_lt (k : Nat) : unN k < 4 := by unfold unN; split; · decide
                                           split; · decide
                                           split <;> decide
theorem laN_le (k : Nat) : 3 ≤ laN k ∧ laN k ≤ 7 := by unfold laN; split; · decide
                                                       split; · decide
                                                       split <;> decide
theorem b01 (p : Prop) [Decidable p] : ((if p then (1 : Int32) else 0) = 0) = ¬ p := by
  by_cases c : p
  · rw [if_pos c]; exact propext ⟨fun z => absurd z (by decide), fun z => absurd c z⟩
  · rw [if_neg c]; exact propext ⟨fun _ => c, fun _ => rfl⟩
end KND
