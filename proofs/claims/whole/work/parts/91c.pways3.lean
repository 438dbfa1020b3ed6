/-! the tables of ways agree -/
section WAT
theorem ways_tab : ∀ k, k < 27 → (((opD k).2.2.2.2 &&& 1 = 0) ↔ pX13_readsD (nI k) = 0) ∧ (((opD k).2.2.2.2 &&& 4 = 0) ↔ pX13_readsA (nI k) = 0) ∧ (((opD k).2.2.2.2 &&& 8 = 0) ↔ pX13_readsB (nI k) = 0) ∧ (((opD k).2.2.2.2 &&& 256 = 0) ↔ ¬ k = 2) ∧ (((opD k).2.2.2.2 &&& 16 = 0) ↔ ¬ (k = 20 ∨ k = 21 ∨ k = 22)) ∧ (((opD k).2.2.2.2 &&& 64 = 0) ↔ ¬ (k = 3 ∨ k = 5)) := by decide +kernel
theorem sets_same (d a c s : Int32) {k : Nat} (hk : k < 27) (m : Bool) : readsR k d a c s m = usesC k d a c s (if m then 1 else 0) := by
  obtain ⟨t1, t4, t8, t256, t16, t64⟩ := ways_tab k hk
  have h := sets_or (decide (k = 0)) (decide (pX13_readsA (nI k) = 0)) (decide (pX13_readsB (nI k) = 0)) (decide (pX13_readsD (nI k) = 0)) (decide (k = 2)) (decide (k = 20 ∨ k = 21 ∨ k = 22)) (decide (k = 3 ∨ k = 5)) m (bitI d) (bitI a) (bitI c) (bitI (6 + s)) 4096 1024 2048
  simp only [decide_eq_true_eq, Bool.and_eq_true, Bool.or_eq_true, Bool.not_eq_true'] at h
  unfold readsR
  refine Eq.trans ?_ (h.trans ?_)
  · rfl
  · unfold usesC wayB
    have em : ((if m then (1 : Int32) else 0) = 0) ↔ ¬ m = true := by cases m <;> decide
    simp only [t1, t4, t8, t256, t16, t64, em, ite_not]
end WAT
