/-! the reference's turn: one token behind the word of an INSTRUCTION -/
section ITR
variable {B b L : Nat} {g : MT} {h h' h1 h2 : CT} {tp : Nat → Int32} {n p : Nat}
def VFr (B : Nat) (h h' : CT) : Prop := hR h' = hR h ∧ (∀ w, w ≠ B + 187 → Eqa h h' w) ∧ (∀ k, ¬ (12 ≤ k ∧ k ≤ 17) → hI h' (B + 187) k = hI h (B + 187) k) ∧ ∀ k, k ≠ 18 → hL h' (B + 187) k = hL h (B + 187) k
theorem VFr.rf (B : Nat) (h : CT) : VFr B h h := ⟨rfl, fun w _ => Eqa.rf h w, fun _ _ => rfl, fun _ _ => rfl⟩
theorem VFr.tr (x : VFr B h h1) (u : VFr B h1 h2) : VFr B h h2 := ⟨u.1.trans x.1, fun w a => (x.2.1 w a).tr (u.2.1 w a), fun k a => (u.2.2.1 k a).trans (x.2.2.1 k a), fun k a => (u.2.2.2 k a).trans (x.2.2.2 k a)⟩
theorem VFr.s (x : VFr B h h1) {k : Nat} {v : Int32} (hk : 12 ≤ k ∧ k ≤ 17) : VFr B h (sI h1 (B + 187) k v) := ⟨x.1, fun w a => (x.2.1 w a).sI a, fun j a => by rw [hI_sI, if_pos rfl, ud_n (by omega)]; exact x.2.2.1 j a, x.2.2.2⟩
theorem UFr.v (x : UFr B h h1) : VFr B h h1 := ⟨x.1, x.2.1, fun k a => x.2.2.1 k (by omega), x.2.2.2⟩
/-- it reads on from p; it has found a fault k at a -/
def LV (B : Nat) (g : MT) (h : CT) (tp : Nat → Int32) (n p : Nat) : Prop := QA B g h tp n p ∧ hI h (B + 187) 12 = 0
def DE (B : Nat) (g : MT) (h : CT) (tp : Nat → Int32) (n : Nat) (k a : Int32) : Prop := QT B g h tp n ∧ hI h (B + 187) 12 = k ∧ 0 < k ∧ hI h (B + 187) 13 = a
theorem QT.v (T : QT B g h tp n) (x : VFr B h h1) : QT B g h1 tp n := ⟨T.1, by rw [x.1]; exact T.2.1, by rw [(x.2.1 (B + 191) (by omega)).1]; exact T.2.2.1, T.2.2.2.1, by rw [x.2.2.1 9 (by decide)]; exact T.2.2.2.2.1, T.2.2.2.2.2⟩
theorem m_adv (A : LV B g h tp n p) : ∃ h', pX13_advance g h (B + 187) = some h' ∧ LV B g h' tp n (tE tp n p) ∧ VFr B h h' := by
  obtain ⟨⟨T, hp, e15, e16, e14, e18, e17⟩, e12⟩ := A
  have el := tE_le (tp := tp) hp
  obtain ⟨h', q1, q2, q3, q4, q5, q6, q7⟩ := m_next T el.2.1 e16
  exact ⟨h', q1, ⟨⟨T.fr q7, el.2.1, q2, q3, q4, q5, q6⟩, by rw [q7.2.2.1 12 (by decide)]; exact e12⟩, q7.v⟩
theorem m_fail (A : LV B g h tp n p) {k : Int32} (hk : 0 < k) : ∃ h', pX13_fail g h (B + 187) k (hI h (B + 187) 15) = some h' ∧ DE B g h' tp n k (nI (tS tp n p)) ∧ VFr B h h' := by
  obtain ⟨⟨T, hp, e15, e16, e14, e18, e17⟩, e12⟩ := A
  have S := T.1
  have x : VFr B h (sI (sI h (B + 187) 12 k) (B + 187) 13 (hI h (B + 187) 15)) := ((VFr.rf B h).s (by decide)).s (by decide)
  refine ⟨_, ?_, ⟨T.v x, by rw [hI_sI, if_pos rfl, ud_n (by decide), hI_s], hk, by rw [hI_s, e15]⟩, x⟩
  unfold pX13_fail
  rw [w_tg (st_187 S), e12, if_pos (by decide), w_lt, w_lt]
/-- the fault of a token that is not what is wanted -/
def amF (tp : Nat → Int32) (n p : Nat) : Int32 := if rT tp n p = 4 then 1 else 2
theorem m_amiss (A : LV B g h tp n p) : ∃ h', pX13_amiss g h (B + 187) = some h' ∧ DE B g h' tp n (amF tp n p) (nI (tS tp n p)) ∧ VFr B h h' := by
  have S := A.1.1.1
  have e14 := A.1.2.2.2.2.1
  unfold pX13_amiss pX13_amiss_b14 amF
  rw [w_tg (st_187 S), e14]
  by_cases c : rT tp n p = 4
  · obtain ⟨h', q1, q2, q3⟩ := m_fail A (k := 1) (by decide)
    rw [if_pos c, if_pos c, w_tg (st_187 S), q1, w_bd]
    exact ⟨h', rfl, q2, q3⟩
  · obtain ⟨h', q1, q2, q3⟩ := m_fail A (k := 2) (by decide)
    rw [if_neg c, if_neg c, w_tg (st_187 S), q1, w_bd]
    exact ⟨h', rfl, q2, q3⟩
theorem m_must (A : LV B g h tp n p) (x : Int32) : ∃ h', pX13_must g h (B + 187) x = some h' ∧ ((x ≠ 0 ∧ LV B g h' tp n (tE tp n p)) ∨ (x = 0 ∧ DE B g h' tp n (amF tp n p) (nI (tS tp n p)))) ∧ VFr B h h' := by
  have S := A.1.1.1
  unfold pX13_must
  rw [w_tg (st_187 S), A.2, if_pos (by decide)]
  by_cases c : x = 0
  · obtain ⟨h', q1, q2, q3⟩ := m_amiss A
    rw [if_pos c, q1, w_bd]
    exact ⟨h', rfl, Or.inr ⟨c, q2⟩, q3⟩
  · obtain ⟨h', q1, q2, q3⟩ := m_adv A
    rw [if_neg c, q1, w_bd]
    exact ⟨h', rfl, Or.inl ⟨c, q2⟩, q3⟩
theorem DE.pos {k a : Int32} (D : DE B g h tp n k a) : ¬ hI h (B + 187) 12 ≤ 0 ∧ ¬ hI h (B + 187) 12 = 0 := by
  rw [D.2.1]
  have := D.2.2.1
  rw [Int32.lt_iff_toInt_lt] at this
  have e0 : (0 : Int32).toInt = 0 := rfl
  exact ⟨fun w => by rw [Int32.le_iff_toInt_le] at w; omega, fun w => by rw [w] at this; omega⟩
theorem d_must {k a : Int32} (D : DE B g h tp n k a) (x : Int32) : pX13_must g h (B + 187) x = some h := by
  unfold pX13_must
  rw [w_tg (st_187 D.1.1), if_neg D.pos.1]
/-- a row, a scalar -/
theorem max0 {v : Int32} {many : Nat} (hm : many ≤ 26) (hv : v = -1 ∨ ∃ j, j < many ∧ v = nI j) : (v < 0 ↔ v = -1) ∧ pJ9_max_7cf53 0 v = if v = -1 then 0 else v := by
  rcases hv with rfl | ⟨j, hj, rfl⟩
  · decide
  · have n1 : ¬ nI j = -1 := gok_neg (by omega)
    refine ⟨⟨fun w => absurd w (nI_pos (by omega)), fun w => absurd w n1⟩, ?_⟩
    rw [if_neg n1]
    unfold pJ9_max_7cf53
    by_cases c : nI j < 0
    · exact absurd c (nI_pos (by omega))
    · by_cases e : j = 0
      · subst e; rfl
      · first | rw [if_neg c] | (rw [if_pos]; exact nI_lt (a := 0) (by omega) (by omega))
theorem m_letE (A : QA B g h tp n p) (sn : ¬ tS tp n p < n) (c many : Int32) : pX13_lettered g h (B + 187) c many = some (-1) := by
  obtain ⟨T, hp, e15, e16, e14, e18, e17⟩ := A
  have eT : rT tp n p = 0 := by unfold rT; rw [if_neg sn]
  unfold pX13_lettered
  rw [w_tg (st_187 T.1), e14, eT, if_neg (by decide)]
end ITR
