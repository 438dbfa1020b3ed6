/-! whether two INSTRUCTIONS may change places -/
section CSW
variable {B b L : Nat} {E : EC} {xs : Nat → Int32} {op st bt : Nat → Nat} {aL aS aO : Nat} {g : MT} {h h' h1 h2 hc hr hc' hr' : CT} {q z p pp : Nat} {π : Pg} {k n nb y t T : Nat}
theorem k_ends (K : EOK E b L xs op st bt aL aS aO) (P : PgC op g hc p π) (wf : WF π) {m : Nat} (hm : m ≤ 30) : ∀ (d j f : Nat), j + d = π.1 → d < f →
    ((∃ i, j ≤ i ∧ i < π.1 ∧ π.2 i 0 = 25 ∧ π.2 i 9 = m) ∧ pX7_endsAhead_l2 E g hc p (nI m) f (nI j) = some 1) ∨ ((¬ ∃ i, j ≤ i ∧ i < π.1 ∧ π.2 i 0 = 25 ∧ π.2 i 9 = m) ∧ pX7_endsAhead_l2 E g hc p (nI m) f (nI j) = some 0) := by
  have h30 := wf.1
  have e30 : E.1 30 = .ref (op 25) := e_st K 25 (by decide)
  intro d
  induction d with
  | zero =>
    intro j f e1 e2
    obtain ⟨f, rfl⟩ : ∃ f', f = f' + 1 := ⟨f - 1, by omega⟩
    refine Or.inr ⟨fun ⟨i, i1, i2, _⟩ => by omega, ?_⟩
    rw [pX7_endsAhead_l2, pX7_endsAhead_b2, P.2.2.2.2.1, if_pos (nI_le (by omega) (by omega))]
  | succ d ih =>
    intro j f e1 e2
    obtain ⟨f, rfl⟩ : ∃ f', f = f' + 1 := ⟨f - 1, by omega⟩
    have hj : j < π.1 := by omega
    have hj28 : π.2 j 0 < 28 := by have := (wf.2 j hj).1; omega
    obtain ⟨i, i1, i2, i3, i4⟩ := P.2.2.2.2.2 j hj
    have st : pX7_endsAhead_l2 E g hc p (nI m) (f + 1) (nI j) = if π.2 j 0 = 25 then (if hI hc i 9 = nI m then some 1 else pX7_endsAhead_l2 E g hc p (nI m) f (nI (j + 1))) else pX7_endsAhead_l2 E g hc p (nI m) f (nI (j + 1)) := by
      rw [pX7_endsAhead_l2, pX7_endsAhead_b2, P.2.2.2.2.1, if_neg (nI_ge hj (by omega)), k_at P h30 hj, w_bd, i1, if_neg (by simp), w_nn, w_tg i2, w_lt, i3, e30, w_kR]
      unfold pX7_endsAhead_b40
      simp only [eq_op K hj28 (show 25 < 28 by decide), w_lt, nI_1]
    rw [st]
    by_cases c : π.2 j 0 = 25
    · have w9 := (wf.2 j hj).2.2.2.2.2.2.2.2.2.2.2 c
      have e9 : (hI hc i 9 = nI m) = (π.2 j 9 = m) := by
        rw [i4 9 (by decide) (by decide)]
        exact propext (nI_eq (by omega) (by omega))
      rw [if_pos c]
      by_cases c2 : π.2 j 9 = m
      · rw [if_pos (e9.mpr c2)]
        exact Or.inl ⟨⟨j, Nat.le_refl j, hj, c, c2⟩, rfl⟩
      · rw [if_neg (fun w => c2 (e9.mp w))]
        rcases ih (j + 1) f (by omega) (by omega) with ⟨⟨x, x1, x2, x3, x4⟩, u⟩ | ⟨x, u⟩
        · exact Or.inl ⟨⟨x, by omega, x2, x3, x4⟩, u⟩
        · refine Or.inr ⟨fun ⟨w, w1, w2, w3, w4⟩ => ?_, u⟩
          by_cases e : w = j
          · subst e; exact c2 w4
          · exact x ⟨w, by omega, w2, w3, w4⟩
    · rw [if_neg c]
      rcases ih (j + 1) f (by omega) (by omega) with ⟨⟨x, x1, x2, x3, x4⟩, u⟩ | ⟨x, u⟩
      · exact Or.inl ⟨⟨x, by omega, x2, x3, x4⟩, u⟩
      · refine Or.inr ⟨fun ⟨w, w1, w2, w3, w4⟩ => ?_, u⟩
        by_cases e : w = j
        · subst e; exact c w3
        · exact x ⟨w, by omega, w2, w3, w4⟩
theorem m_ends (S : Sh B g) (p2 : PtR B (hR hr)) (PM : PgM (hI hr (B + 192)) 0 π) (wf : WF π) (hk : k < π.1) : ∀ (d j f : Nat), j + d = k + 1 → d < f →
    ((∃ i, j ≤ i ∧ i < π.1 ∧ π.2 i 0 = 25 ∧ π.2 i 9 = k + 1) ∧ pX13_isEndBehind_l2 g hr (B + 187) (nI k) f (nI j) = some 1) ∨ ((¬ ∃ i, j ≤ i ∧ i < π.1 ∧ π.2 i 0 = 25 ∧ π.2 i 9 = k + 1) ∧ pX13_isEndBehind_l2 g hr (B + 187) (nI k) f (nI j) = some 0) := by
  have h30 := wf.1
  intro d
  induction d with
  | zero =>
    intro j f e1 e2
    obtain ⟨f, rfl⟩ : ∃ f', f = f' + 1 := ⟨f - 1, by omega⟩
    refine Or.inr ⟨fun ⟨i, i1, i2, i3, i4⟩ => ?_, ?_⟩
    · have := (wf.2 i i2).2.2.2.2.2.2.2.2.2.2.2 i3
      omega
    · rw [pX13_isEndBehind_l2, pX13_isEndBehind_b2, if_pos (nI_lt (by omega) (by omega))]
  | succ d ih =>
    intro j f e1 e2
    obtain ⟨f, rfl⟩ : ∃ f', f = f' + 1 := ⟨f - 1, by omega⟩
    have hj : j < π.1 := by omega
    have ims := im_at S p2 (show j < 30 by omega) (PM.im hj)
    have q25 : (nI (π.2 j 0) = 25) = (π.2 j 0 = 25) := q_k (j := 25) (wf.2 j hj).1 (by decide)
    have st : pX13_isEndBehind_l2 g hr (B + 187) (nI k) (f + 1) (nI j) = if π.2 j 0 = 25 then (if π.2 j 9 = k + 1 then some 1 else pX13_isEndBehind_l2 g hr (B + 187) (nI k) f (nI (j + 1))) else pX13_isEndBehind_l2 g hr (B + 187) (nI k) f (nI (j + 1)) := by
      rw [pX13_isEndBehind_l2, pX13_isEndBehind_b2, if_neg (show ¬ nI k < nI j from nI_nlt (by omega) (by omega)), ims.1, w_bd]
      unfold pX13_isEndBehind_b33
      simp only [q25, w_lt, nI_1]
      by_cases c : π.2 j 0 = 25
      · have w9 := (wf.2 j hj).2.2.2.2.2.2.2.2.2.2.2 c
        rw [if_pos c, if_pos c, ims.2.2.2.2.2.2.2 c, w_bd]
        simp only [show (nI (π.2 j 9) = nI (k + 1)) = (π.2 j 9 = k + 1) from propext (nI_eq (by omega) (by omega))]
      · rw [if_neg c, if_neg c]
    rw [st]
    by_cases c : π.2 j 0 = 25
    · rw [if_pos c]
      by_cases c2 : π.2 j 9 = k + 1
      · rw [if_pos c2]
        exact Or.inl ⟨⟨j, Nat.le_refl j, hj, c, c2⟩, rfl⟩
      · rw [if_neg c2]
        rcases ih (j + 1) f (by omega) (by omega) with ⟨⟨x, x1, x2, x3, x4⟩, u⟩ | ⟨x, u⟩
        · exact Or.inl ⟨⟨x, by omega, x2, x3, x4⟩, u⟩
        · refine Or.inr ⟨fun ⟨w, w1, w2, w3, w4⟩ => ?_, u⟩
          by_cases e : w = j
          · subst e; exact c2 w4
          · exact x ⟨w, by omega, w2, w3, w4⟩
    · rw [if_neg c]
      rcases ih (j + 1) f (by omega) (by omega) with ⟨⟨x, x1, x2, x3, x4⟩, u⟩ | ⟨x, u⟩
      · exact Or.inl ⟨⟨x, by omega, x2, x3, x4⟩, u⟩
      · refine Or.inr ⟨fun ⟨w, w1, w2, w3, w4⟩ => ?_, u⟩
        by_cases e : w = j
        · subst e; exact c w3
        · exact x ⟨w, by omega, w2, w3, w4⟩
/-- what is a PROGRAM's INSTRUCTION -/
theorem m_code (S : Sh B g) (p2 : PtR B (hR hr)) (PM : PgM (hI hr (B + 192)) 0 π) (wf : WF π) {k : Nat} (hk : k < 2 ^ 31) : pX13_isCode g hr (B + 187) (nI k) = some (if k < π.1 then 1 else 0) := by
  have h30 := wf.1
  have ref : pX13_isCode g hr (B + 187) (nI k) = some (pX12_within (nI k) 0 (nI π.1 - 1)) := by
    simp only [pX13_isCode, w_tg (st_187 S), w_lt, pr_187_19 p2, w_nn, w_tg (st_192 S), sl_192 S]
    rw [w_ixl (by decide) (by decide), cl_l 5 (by decide), show hI hr (B + 192) 5 = nI π.1 from PM.1, show (0 : Int64) = (0 : Int32).toInt64 from rfl, isIn_w]
  rw [ref]
  have e1 : (nI π.1 - 1 : Int32).toInt = (π.1 : Int) - 1 := by
    by_cases c : π.1 = 0
    · rw [c]; decide
    · rw [show (nI π.1 - 1 : Int32) = nI (π.1 - 1) from pk_sub (a := π.1) (b := 1) (by omega), nI_toInt (by omega)]; omega
  unfold pX12_within
  rw [if_neg (nI_pos hk)]
  by_cases c : k < π.1
  · rw [if_pos c, if_neg (fun w => by
      rw [Int32.lt_iff_toInt_lt, e1, nI_toInt (by omega)] at w
      omega)]
  · rw [if_neg c, if_pos (by
      rw [Int32.lt_iff_toInt_lt, e1, nI_toInt (by omega)]
      omega)]
theorem can_why (K : EOK E b L xs op st bt aL aS aO) (S : Sh B g) (p2 : PtR B (hR hr)) (PC : PgC op g hc p π) (PM : PgM (hI hr (B + 192)) 0 π) (wf : WF π) (hk : k + 1 < π.1) :
    (depP π k (k + 1) = 0 ∧ pX7_canSwap E g hc p (nI k) = some 1 ∧ pX13_whyNoSwap g hr (B + 187) (nI k) = some 0) ∨ (pX7_canSwap E g hc p (nI k) = some 0 ∧ pX13_whyNoSwap g hr (B + 187) (nI k) = some 9) := by
  have h30 := wf.1
  have c1 := m_code S p2 PM wf (show k < 2 ^ 31 by omega)
  have c2 := m_code S p2 PM wf (show k + 1 < 2 ^ 31 by omega)
  rw [if_pos (by omega)] at c1
  rw [if_pos hk] at c2
  have d1 := k_ties K PC wf (show k < π.1 by omega) hk
  have d2 := m_dependsOf S p2 PM wf (show k < π.1 by omega) hk
  have n1 : ¬ (1 : Int32) = 0 := by decide
  have b39 : pX13_whyNoSwap_b39 g hr (B + 187) (nI k) = some 9 := rfl
  have cs : pX7_canSwap E g hc p (nI k) = if depP π k (k + 1) = 0 then (bd (pX7_endsAhead E g hc p (nI (k + 1))) fun x4 => (if x4 = 0 then some 1 else some 0)) else some 0 := by
    unfold pX7_canSwap
    rw [w_tg PC.1, nI_1, d1, w_bd]
  have ws : pX13_whyNoSwap g hr (B + 187) (nI k) = if depP π k (k + 1) = 0 then (bd (pX13_isEndBehind g hr (B + 187) (nI k)) fun x10 => (if x10 = 0 then some 0 else some 9)) else some 9 := by
    unfold pX13_whyNoSwap
    rw [w_tg (st_187 S), nI_1, c1, w_bd, if_neg n1, c2, w_bd, if_neg n1, d2, w_bd, b39]
  have ea : pX7_endsAhead E g hc p (nI (k + 1)) = pX7_endsAhead_l2 E g hc p (nI (k + 1)) FUEL (nI 0) := by
    unfold pX7_endsAhead
    rw [w_tg PC.1]; rfl
  have ib : pX13_isEndBehind g hr (B + 187) (nI k) = pX13_isEndBehind_l2 g hr (B + 187) (nI k) FUEL (nI 0) := by
    unfold pX13_isEndBehind
    rw [w_tg (st_187 S)]; rfl
  rw [cs, ws]
  by_cases c : depP π k (k + 1) = 0
  · rw [if_pos c, if_pos c, ea, ib]
    have fu : 100 < FUEL := by decide
    rcases k_ends K PC wf (show k + 1 ≤ 30 by omega) π.1 0 FUEL (by omega) (by omega) with ⟨x, u⟩ | ⟨x, u⟩ <;> rcases m_ends S p2 PM wf (show k < π.1 by omega) (k + 1) 0 FUEL (by omega) (by omega) with ⟨w, v⟩ | ⟨w, v⟩
    · right; rw [u, v, w_bd, w_bd, if_neg n1, if_neg n1]; exact ⟨rfl, rfl⟩
    · exact absurd x w
    · exact absurd w x
    · left; rw [u, v, w_bd, w_bd, if_pos rfl, if_pos rfl]; exact ⟨c, rfl, rfl⟩
  · rw [if_neg c, if_neg c]
    exact Or.inr ⟨rfl, rfl⟩
end CSW
