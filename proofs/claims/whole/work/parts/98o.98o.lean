/-! the reference's items: numbers, at, by, of; and when a fault is found -/
section ITS
variable {B b L : Nat} {g : MT} {h h' h1 h2 : CT} {tp : Nat → Int32} {n p : Nat}
theorem wi_n {v m : Nat} (hv : v < 2 ^ 31) (hm : m < 2 ^ 31) : pX12_within (nI v) 0 (nI m) = if v ≤ m then 1 else 0 := by
  unfold pX12_within
  rw [if_neg (nI_pos hv)]
  by_cases c : v ≤ m
  · rw [if_pos c, if_neg (show ¬ nI m < nI v from nI_nlt c (by omega))]
  · rw [if_neg c, if_pos (nI_lt (by omega) (by omega))]
theorem itF_num {c : Int32} (hc : c = 112 ∨ c = 121 ∨ c = 110 ∨ c = 118) : itF tp n p c = (if tK tp n p = 2 then (if nmV tp (tS tp n p) (tE tp n p - tS tp n p) ≤ pX6_mostFor c then 0 else 4) else 2) ∧ itV tp n p c = nmV tp (tS tp n p) (tE tp n p - tS tp n p) := by
  rcases hc with rfl | rfl | rfl | rfl <;> exact ⟨rfl, rfl⟩
theorem d_cnt {k a : Int32} (D : DE B g h tp n k a) (lo hi : Int32) : pX13_countOf g h (B + 187) lo hi = some (0, h) := by
  unfold pX13_countOf pX13_countOf_b19 pX13_countOf_b50
  rw [w_tg (st_187 D.1.1), if_neg D.pos.2, if_neg D.pos.2, if_neg D.pos.1]
theorem d_row {k a : Int32} (D : DE B g h tp n k a) : pX13_readRow g h (B + 187) = some (0, h) := by
  unfold pX13_readRow pX13_readRow_b19 pX13_readRow_b30
  rw [w_tg (st_187 D.1.1), if_neg D.pos.1, if_neg (by decide), w_tg (st_187 D.1.1), d_must D, w_bd]
  rfl
theorem d_sca {k a : Int32} (D : DE B g h tp n k a) : pX13_readScalar g h (B + 187) = some (0, h) := by
  unfold pX13_readScalar pX13_readScalar_b18 pX13_readScalar_b29
  rw [w_tg (st_187 D.1.1), if_neg D.pos.1, if_neg (by decide), w_tg (st_187 D.1.1), d_must D, w_bd]
  rfl
theorem rT_2 : rT tp n p = 2 ↔ tS tp n p < n ∧ tK tp n p = 2 := by
  unfold rT
  by_cases c : tS tp n p < n
  · rw [if_pos c]
    by_cases d : tK tp n p = 0
    · rw [if_pos d, d]; exact ⟨fun w => absurd w (by decide), fun w => absurd w.2 (by decide)⟩
    · rw [if_neg d]; exact ⟨fun w => ⟨c, w⟩, fun w => w.2⟩
  · rw [if_neg c]; exact ⟨fun w => absurd w (by decide), fun w => absurd w.1 c⟩
/-- a number -/
theorem m_cnt (A : LV B g h tp n p) {c : Int32} (hc : c = 112 ∨ c = 121 ∨ c = 110 ∨ c = 118) : ∃ h', pX13_countOf g h (B + 187) 0 (pX6_mostFor c) = some (if fF tp n p c = 0 then itV tp n p c else 0, h') ∧ OUT B g h' tp n p c ∧ VFr B h h' := by
  have S := A.1.1.1
  obtain ⟨eF, eV⟩ := itF_num (tp := tp) (n := n) (p := p) hc
  obtain ⟨m, hm, em⟩ : ∃ m, m < 2 ^ 31 ∧ pX6_mostFor c = nI m := by
    rcases hc with rfl | rfl | rfl | rfl
    · exact ⟨63, by decide, rfl⟩
    · exact ⟨16, by decide, rfl⟩
    · exact ⟨200, by decide, rfl⟩
    · exact ⟨16, by decide, rfl⟩
  have e14 := A.1.2.2.2.2.1
  have dead : ∀ h1 k, DE B g h1 tp n k (nI (tS tp n p)) → pX13_countOf_b19 g (B + 187) 0 (pX6_mostFor c) h1 = some (0, h1) := fun h1 k D => by
    unfold pX13_countOf_b19 pX13_countOf_b50
    rw [if_neg D.pos.2, if_neg D.pos.1]
  unfold pX13_countOf
  rw [w_tg (st_187 S), A.2, if_pos rfl, e14]
  by_cases c2 : rT tp n p = 2
  · obtain ⟨sn, hk⟩ := rT_2.mp c2
    have e17 := A.1.2.2.2.2.2.2 c2
    obtain ⟨m4, dg⟩ := num_digs hk sn
    obtain ⟨v, v1, v2⟩ := nm_val (tp := tp) (s := tS tp n p) _ m4 dg
    have p4 : 10 ^ (tE tp n p - tS tp n p) ≤ 10 ^ 4 := Nat.pow_le_pow_right (by decide) m4
    have fe : fF tp n p c = if v ≤ m then 0 else 4 := by
      unfold fF
      rw [if_pos sn, hk, if_neg (by decide), eF, if_pos hk, v2, em]
      by_cases w : v ≤ m
      · rw [if_pos w, if_pos (nI_le w (by omega))]
      · rw [if_neg w, if_neg (nI_ge (by omega) (by omega))]
    rw [if_pos c2]
    unfold pX13_countOf_b19
    rw [A.2, if_pos rfl, e17, v2, isIn_w, em, wi_n (by omega) hm]
    by_cases w : v ≤ m
    · obtain ⟨h', q1, q2, q3⟩ := m_adv A
      rw [if_pos w] at fe
      rw [if_pos w, if_neg (by decide)]
      unfold pX13_countOf_b50
      rw [A.2, if_pos (by decide), e17, w_lt, q1, w_bd, fe, if_pos rfl, eV]
      exact ⟨h', rfl, Or.inl ⟨fe, q2⟩, q3⟩
    · obtain ⟨h', q1, q2, q3⟩ := m_fail A (k := 4) (by decide)
      rw [if_neg w] at fe
      rw [if_neg w, if_pos rfl, q1, w_bd]
      unfold pX13_countOf_b50
      rw [if_neg q2.pos.1, fe, if_neg (by decide)]
      exact ⟨h', rfl, Or.inr ⟨by rw [fe]; decide, by rw [fe]; exact q2⟩, q3⟩
  · obtain ⟨h', q1, q2, q3⟩ := m_amiss A
    have fe : fF tp n p c = amF tp n p := by
      unfold fF
      by_cases sn : tS tp n p < n
      · have nk : ¬ tK tp n p = 2 := fun w => c2 (rT_2.mpr ⟨sn, w⟩)
        rw [if_pos sn, amF_in sn, eF, if_neg nk]
      · rw [if_neg sn, amF_out sn]
    have ne : ¬ fF tp n p c = 0 := by
      rw [fe]
      unfold amF
      split <;> decide
    rw [if_neg c2, q1, w_bd, dead h' _ q2, if_neg ne]
    exact ⟨h', rfl, Or.inr ⟨ne, by rw [fe]; exact q2⟩, q3⟩
/-- at, by, of -/
theorem m_tx (A : LV B g h tp n p) {c : Int32} {i : Nat} (hc : (c = 64 ∧ i = 2) ∨ (c = 42 ∧ i = 3) ∨ (c = 102 ∧ i = 4)) : ∃ h', pX13_must g h (B + 187) (if isT tp n p (stB i) then 1 else 0) = some h' ∧ OUT B g h' tp n p c ∧ VFr B h h' := by
  have eF : itF tp n p c = if isT tp n p (stB i) then 0 else 2 := by rcases hc with ⟨rfl, rfl⟩ | ⟨rfl, rfl⟩ | ⟨rfl, rfl⟩ <;> rfl
  obtain ⟨h', q1, q2, q3, q4⟩ := m_item (c := c) (x := if isT tp n p (stB i) then 1 else 0) A (fun sn => by
    rw [eF]
    by_cases w : isT tp n p (stB i)
    · rw [if_pos w, if_pos w]
      exact ⟨⟨fun u => absurd u (by decide), fun u => absurd rfl u⟩, fun k => absurd (w.1.symm.trans k) (by decide), Or.inl rfl⟩
    · rw [if_neg w, if_neg w]
      exact ⟨⟨fun _ => by decide, fun _ => rfl⟩, fun _ => rfl, Or.inr rfl⟩) (fun sn => by
    rw [if_neg]
    intro t
    have eE : tE tp n p = tS tp n p := by unfold tE; rw [if_neg sn]
    have := t.2.1
    rcases hc with ⟨-, rfl⟩ | ⟨-, rfl⟩ | ⟨-, rfl⟩
    · rw [eE, Nat.sub_self] at this; exact absurd this (by decide)
    · rw [eE, Nat.sub_self] at this; exact absurd this (by decide)
    · rw [eE, Nat.sub_self] at this; exact absurd this (by decide))
  exact ⟨h', q1, q2, q4⟩
theorem tx_lt : ∀ i, i < 5 → 1 ≤ i → 1 ≤ (stB i).length ∧ (stB i).length ≤ 8 ∧ ∀ j, j < (stB i).length → 97 ≤ ((stB i).getD j 0).toInt ∧ ((stB i).getD j 0).toInt ≤ 122 := by decide +kernel
theorem bz_if {P : Prop} [Decidable P] (k : Option Int32) : bz (if P then (1 : Int32) else 0) k = k := by
  by_cases c : P
  · rw [if_pos c]; rfl
  · rw [if_neg c]; rfl
theorem m_isAt (A : QA B g h tp n p) : pX13_isAt g h (B + 187) = some (if isT tp n p (stB 2) then 1 else 0) := by
  obtain ⟨a1, a2, a3⟩ := tx_lt 2 (by decide) (by decide)
  unfold pX13_isAt
  rw [w_tg (st_187 A.1.1), m_wrd A a1 a2 a3 (by decide +kernel), w_bd, bz_if]
theorem m_isBy (A : QA B g h tp n p) : pX13_isBy g h (B + 187) = some (if isT tp n p (stB 3) then 1 else 0) := by
  obtain ⟨a1, a2, a3⟩ := tx_lt 3 (by decide) (by decide)
  unfold pX13_isBy
  rw [w_tg (st_187 A.1.1), m_wrd A a1 a2 a3 (by decide +kernel), w_bd, bz_if]
theorem m_isOf (A : QA B g h tp n p) : pX13_isOf g h (B + 187) = some (if isT tp n p (stB 4) then 1 else 0) := by
  obtain ⟨a1, a2, a3⟩ := tx_lt 4 (by decide) (by decide)
  unfold pX13_isOf
  rw [w_tg (st_187 A.1.1), m_wrd A a1 a2 a3 (by decide +kernel), w_bd, bz_if]
theorem m_isMasked (A : QA B g h tp n p) : pX13_isMasked g h (B + 187) = some (if isT tp n p (stB 1) then 1 else 0) := by
  obtain ⟨a1, a2, a3⟩ := tx_lt 1 (by decide) (by decide)
  unfold pX13_isMasked
  rw [w_tg (st_187 A.1.1), m_wrd A a1 a2 a3 (by decide +kernel), w_bd, bz_if]
end ITS
