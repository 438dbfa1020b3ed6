/-! the reference's items: a row, a scalar, a number, a word, the sign -/
section ITQ
variable {B b L : Nat} {g : MT} {h h' h1 h2 : CT} {tp : Nat → Int32} {n p : Nat}
/-- the fault of the token from p on where the form wants c: 0 for none -/
def fF (tp : Nat → Int32) (n p : Nat) (c : Int32) : Int32 := if tS tp n p < n then (if tK tp n p = 0 then 1 else itF tp n p c) else 2
def OUT (B : Nat) (g : MT) (h' : CT) (tp : Nat → Int32) (n p : Nat) (c : Int32) : Prop := (fF tp n p c = 0 ∧ LV B g h' tp n (tE tp n p)) ∨ (fF tp n p c ≠ 0 ∧ DE B g h' tp n (fF tp n p c) (nI (tS tp n p)))
theorem amF_in (sn : tS tp n p < n) : amF tp n p = if tK tp n p = 0 then 1 else 2 := by
  have cs : tK tp n p = 0 ∨ tK tp n p = 1 ∨ tK tp n p = 2 ∨ tK tp n p = 3 := by
    unfold tK
    split
    · exact Or.inl rfl
    · exact srt_cases _
  unfold amF rT
  rw [if_pos sn]
  rcases cs with e | e | e | e <;> rw [e] <;> decide
theorem amF_out (sn : ¬ tS tp n p < n) : amF tp n p = 2 := by
  unfold amF rT
  rw [if_neg sn]; decide
/-- must, where a token is wanted or not -/
theorem m_item (A : LV B g h tp n p) {c x : Int32} (h1 : tS tp n p < n → (x = 0 ↔ itF tp n p c ≠ 0) ∧ (tK tp n p = 0 → x = 0) ∧ (itF tp n p c = 0 ∨ itF tp n p c = 2)) (h2 : ¬ tS tp n p < n → x = 0) : ∃ h', pX13_must g h (B + 187) x = some h' ∧ OUT B g h' tp n p c ∧ (x = 0 ↔ fF tp n p c ≠ 0) ∧ VFr B h h' := by
  obtain ⟨h', q1, q2, q3⟩ := m_must A x
  have key : (x = 0 ↔ fF tp n p c ≠ 0) ∧ (x = 0 → fF tp n p c = amF tp n p) := by
    by_cases sn : tS tp n p < n
    · obtain ⟨u1, u2, u3⟩ := h1 sn
      have e : fF tp n p c = if tK tp n p = 0 then 1 else itF tp n p c := by unfold fF; rw [if_pos sn]
      rw [e, amF_in sn]
      by_cases k : tK tp n p = 0
      · rw [if_pos k, if_pos k]
        exact ⟨⟨fun _ => by decide, fun _ => u2 k⟩, fun _ => rfl⟩
      · rw [if_neg k, if_neg k]
        exact ⟨u1, fun w => u3.resolve_left (u1.mp w)⟩
    · have e : fF tp n p c = 2 := by unfold fF; rw [if_neg sn]
      rw [e, amF_out sn]
      exact ⟨⟨fun _ => by decide, fun _ => h2 sn⟩, fun _ => rfl⟩
  refine ⟨h', q1, ?_, key.1, q3⟩
  rcases q2 with ⟨w, l⟩ | ⟨w, d⟩
  · exact Or.inl ⟨Classical.byContradiction fun e => w (key.1.mpr e), l⟩
  · exact Or.inr ⟨key.1.mp w, by rw [key.2 w]; exact d⟩
theorem itF_row {c : Int32} (hc : c = 97 ∨ c = 98 ∨ c = 100) : itF tp n p c = (if ltV tp n p 118 6 = -1 then 2 else 0) ∧ itV tp n p c = ltV tp n p 118 6 := by
  rcases hc with rfl | rfl | rfl <;> exact ⟨rfl, rfl⟩
theorem ltV_0 {f : Int32} {many : Nat} (k : tK tp n p = 0) : ltV tp n p f many = -1 := by
  unfold ltV
  rw [if_neg (by rw [k]; exact fun w => absurd w.1 (by decide))]
theorem m_row (A : LV B g h tp n p) {c : Int32} (hc : c = 97 ∨ c = 98 ∨ c = 100) : ∃ h', pX13_readRow g h (B + 187) = some (if fF tp n p c = 0 then itV tp n p c else 0, h') ∧ OUT B g h' tp n p c ∧ VFr B h h' := by
  have S := A.1.1.1
  obtain ⟨eF, eV⟩ := itF_row (tp := tp) (n := n) (p := p) hc
  have b19 : ∀ v, (v = -1 ∨ ∃ j, j < 6 ∧ v = nI j) → (tS tp n p < n → v = ltV tp n p 118 6) → (¬ tS tp n p < n → v = -1) → ∃ h', pX13_readRow_b19 g (B + 187) v h = some (if fF tp n p c = 0 then itV tp n p c else 0, h') ∧ OUT B g h' tp n p c ∧ VFr B h h' := fun v hv e1 e2 => by
    obtain ⟨x1, x2⟩ := max0 (many := 6) (by decide) hv
    have go : ∀ x : Int32, (x = 0 ↔ v = -1) → ∃ h', pX13_readRow_b30 g (B + 187) v (B + 187) x h = some (if fF tp n p c = 0 then itV tp n p c else 0, h') ∧ OUT B g h' tp n p c ∧ VFr B h h' := fun x hx => by
      obtain ⟨h', q1, q2, q3, q4⟩ := m_item (c := c) (x := x) A (fun sn => by
        rw [eF, ← e1 sn]
        by_cases w : v = -1
        · rw [if_pos w]; exact ⟨⟨fun _ => by decide, fun _ => hx.mpr w⟩, fun _ => hx.mpr w, Or.inr rfl⟩
        · rw [if_neg w]; exact ⟨⟨fun u => absurd (hx.mp u) w, fun u => absurd rfl u⟩, fun k => absurd ((e1 sn).trans (ltV_0 k)) w, Or.inl rfl⟩) (fun sn => hx.mpr (e2 sn))
      unfold pX13_readRow_b30
      rw [w_tg (st_187 S), q1, w_bd, x2]
      refine ⟨h', ?_, q2, q4⟩
      by_cases w : v = -1
      · rw [if_pos w, if_neg (q3.mp (hx.mpr w))]
      · have f0 : fF tp n p c = 0 := Classical.byContradiction fun u => w (hx.mp (q3.mpr u))
        have sn : tS tp n p < n := Classical.byContradiction fun u => w (e2 u)
        rw [if_neg w, if_pos f0, eV, e1 sn]
    unfold pX13_readRow_b19
    by_cases w : v = -1
    · rw [if_pos (x1.mpr w)]; exact go 0 ⟨fun _ => w, fun _ => rfl⟩
    · rw [if_neg (fun u => w (x1.mp u))]; exact go 1 ⟨fun u => absurd u (by decide), fun u => absurd u w⟩
  unfold pX13_readRow
  rw [w_tg (st_187 S), A.2, if_pos (by decide)]
  by_cases sn : tS tp n p < n
  · obtain ⟨v, hv, ev⟩ := let_ex tp n p sn 118 6 (by decide)
    have ev' : ltV tp n p 118 6 = v := ev
    rw [show (6 : Int32) = nI 6 from rfl, m_let A.1 sn, w_bd]
    exact b19 _ (by rw [ev']; exact hv) (fun _ => rfl) (fun u => absurd sn u)
  · rw [m_letE A.1 sn, w_bd]
    exact b19 _ (Or.inl rfl) (fun u => absurd u sn) (fun _ => rfl)
theorem m_sca (A : LV B g h tp n p) : ∃ h', pX13_readScalar g h (B + 187) = some (if fF tp n p 115 = 0 then itV tp n p 115 else 0, h') ∧ OUT B g h' tp n p 115 ∧ VFr B h h' := by
  have S := A.1.1.1
  have eF : itF tp n p 115 = (if ltV tp n p 115 4 = -1 then 2 else 0) := rfl
  have eV : itV tp n p 115 = ltV tp n p 115 4 := rfl
  have b19 : ∀ v, (v = -1 ∨ ∃ j, j < 4 ∧ v = nI j) → (tS tp n p < n → v = ltV tp n p 115 4) → (¬ tS tp n p < n → v = -1) → ∃ h', pX13_readScalar_b18 g (B + 187) v h = some (if fF tp n p 115 = 0 then itV tp n p 115 else 0, h') ∧ OUT B g h' tp n p 115 ∧ VFr B h h' := fun v hv e1 e2 => by
    obtain ⟨x1, x2⟩ := max0 (many := 4) (by decide) hv
    have go : ∀ x : Int32, (x = 0 ↔ v = -1) → ∃ h', pX13_readScalar_b29 g (B + 187) v (B + 187) x h = some (if fF tp n p 115 = 0 then itV tp n p 115 else 0, h') ∧ OUT B g h' tp n p 115 ∧ VFr B h h' := fun x hx => by
      obtain ⟨h', q1, q2, q3, q4⟩ := m_item (c := 115) (x := x) A (fun sn => by
        rw [eF, ← e1 sn]
        by_cases w : v = -1
        · rw [if_pos w]; exact ⟨⟨fun _ => by decide, fun _ => hx.mpr w⟩, fun _ => hx.mpr w, Or.inr rfl⟩
        · rw [if_neg w]; exact ⟨⟨fun u => absurd (hx.mp u) w, fun u => absurd rfl u⟩, fun k => absurd ((e1 sn).trans (ltV_0 k)) w, Or.inl rfl⟩) (fun sn => hx.mpr (e2 sn))
      unfold pX13_readScalar_b29
      rw [w_tg (st_187 S), q1, w_bd, x2]
      refine ⟨h', ?_, q2, q4⟩
      by_cases w : v = -1
      · rw [if_pos w, if_neg (q3.mp (hx.mpr w))]
      · have f0 : fF tp n p 115 = 0 := Classical.byContradiction fun u => w (hx.mp (q3.mpr u))
        have sn : tS tp n p < n := Classical.byContradiction fun u => w (e2 u)
        rw [if_neg w, if_pos f0, eV, e1 sn]
    unfold pX13_readScalar_b18
    by_cases w : v = -1
    · rw [if_pos (x1.mpr w)]; exact go 0 ⟨fun _ => w, fun _ => rfl⟩
    · rw [if_neg (fun u => w (x1.mp u))]; exact go 1 ⟨fun u => absurd u (by decide), fun u => absurd u w⟩
  unfold pX13_readScalar
  rw [w_tg (st_187 S), A.2, if_pos (by decide)]
  by_cases sn : tS tp n p < n
  · obtain ⟨v, hv, ev⟩ := let_ex tp n p sn 115 4 (by decide)
    have ev' : ltV tp n p 115 4 = v := ev
    rw [show (4 : Int32) = nI 4 from rfl, m_let A.1 sn, w_bd]
    exact b19 _ (by rw [ev']; exact hv) (fun _ => rfl) (fun u => absurd sn u)
  · rw [m_letE A.1 sn, w_bd]
    exact b19 _ (Or.inl rfl) (fun u => absurd u sn) (fun _ => rfl)
/-- the sign -/
theorem m_sgn (A : LV B g h tp n p) : ∃ h', pX13_must g h (B + 187) (if hI h (B + 187) 14 = 3 then 1 else 0) = some h' ∧ OUT B g h' tp n p 59 ∧ VFr B h h' := by
  have e14 := A.1.2.2.2.2.1
  have eF : itF tp n p 59 = (if tK tp n p = 3 then 0 else 2) := rfl
  have r3 : rT tp n p = 3 ↔ tS tp n p < n ∧ tK tp n p = 3 := by
    unfold rT
    by_cases c : tS tp n p < n
    · rw [if_pos c]
      by_cases d : tK tp n p = 0
      · rw [if_pos d, d]; exact ⟨fun w => absurd w (by decide), fun w => absurd w.2 (by decide)⟩
      · rw [if_neg d]; exact ⟨fun w => ⟨c, w⟩, fun w => w.2⟩
    · rw [if_neg c]; exact ⟨fun w => absurd w (by decide), fun w => absurd w.1 c⟩
  rw [e14]
  obtain ⟨h', q1, q2, q3, q4⟩ := m_item (c := 59) (x := if rT tp n p = 3 then 1 else 0) A (fun sn => by
    rw [eF]
    by_cases w : tK tp n p = 3
    · rw [if_pos w, if_pos (r3.mpr ⟨sn, w⟩)]
      exact ⟨⟨fun u => absurd u (by decide), fun u => absurd rfl u⟩, fun k => absurd (w.symm.trans k) (by decide), Or.inl rfl⟩
    · rw [if_neg w, if_neg (fun u => w (r3.mp u).2)]
      exact ⟨⟨fun _ => by decide, fun _ => rfl⟩, fun _ => rfl, Or.inr rfl⟩) (fun sn => by rw [if_neg (fun u => sn (r3.mp u).1)])
  exact ⟨h', q1, q2, q4⟩
end ITQ
