/-! letters and numbers behind words, in both -/
section LET
variable {B b L : Nat} {E : EC} {xs : Nat → Int32} {op st bt : Nat → Nat} {aL aS aO : Nat} {g : MT} {h h' h1 h2 : CT} {tp : Nat → Int32} {n p : Nat}
/-- which row or scalar a token names: many for none -/
theorem let_ex (tp : Nat → Int32) (n p : Nat) (sn : tS tp n p < n) (c : Int32) (many : Nat) (hm : many ≤ 26) : ∃ v, (v = -1 ∨ ∃ j, j < many ∧ v = nI j) ∧ (if tK tp n p = 1 ∧ tE tp n p - tS tp n p = 2 ∧ tp (tS tp n p) = c then (if nI many ≤ tp (tS tp n p + 1) - 97 then -1 else tp (tS tp n p + 1) - 97) else -1) = v := by
  by_cases t : tK tp n p = 1 ∧ tE tp n p - tS tp n p = 2 ∧ tp (tS tp n p) = c
  · rw [if_pos t]
    obtain ⟨t1, t2, t3⟩ := t
    obtain ⟨l1, l2⟩ := word_ltrs t1 sn (j := 1) (by omega)
    have e : tp (tS tp n p + 1) - 97 = nI ((tp (tS tp n p + 1)).toInt.toNat - 97) := by
      refine Int32.toInt_inj.mp ?_
      rw [nI_toInt (by omega), Int32.toInt_sub, show (97 : Int32).toInt = 97 from rfl, Int.bmod_eq_of_le (by omega) (by omega)]
      omega
    rw [e]
    by_cases c2 : nI many ≤ nI ((tp (tS tp n p + 1)).toInt.toNat - 97)
    · rw [if_pos c2]; exact ⟨_, Or.inl rfl, rfl⟩
    · rw [if_neg c2]
      refine ⟨_, Or.inr ⟨_, ?_, rfl⟩, rfl⟩
      exact Nat.not_le.mp fun w => c2 (nI_le w (by omega))
  · rw [if_neg t]; exact ⟨_, Or.inl rfl, rfl⟩
def ltV (tp : Nat → Int32) (n p : Nat) (c : Int32) (many : Nat) : Int32 := if tK tp n p = 1 ∧ tE tp n p - tS tp n p = 2 ∧ tp (tS tp n p) = c then (if nI many ≤ tp (tS tp n p + 1) - 97 then -1 else tp (tS tp n p + 1) - 97) else -1
theorem k_let (A : KA B g h tp n p) (c : Int32) {many : Nat} : pX6_letterBehind g h (B + 11) c (nI many) = some (ltV tp n p c many) := by
  obtain ⟨T, hp, sn, e4, e5, e6⟩ := A
  obtain ⟨t1, t2, t3, t4, t5, t6, n900⟩ := T
  have el := tE_le (tp := tp) hp
  have sub : hI h (B + 11) 5 - hI h (B + 11) 4 = nI (tE tp n p - tS tp n p) := by rw [e4, e5]; exact pk_sub el.1
  have s2 : (hI h (B + 11) 5 - hI h (B + 11) 4 = 2) = (tE tp n p - tS tp n p = 2) := by
    rw [sub]
    exact propext (nI_eq (b := 2) (by omega) (by omega))
  unfold pX6_letterBehind ltV
  rw [w_tg t1, e6]
  by_cases c1 : tK tp n p = 1
  · rw [if_pos c1]
    simp only [s2]
    by_cases c2 : tE tp n p - tS tp n p = 2
    · rw [if_pos c2, w_lt, t2, w_nn, w_tg t3, t4, e4, w_ix (by omega) (by decide), nI_clamp (by omega), t5]
      by_cases c3 : tp (tS tp n p) = c
      · rw [if_pos c3, if_pos ⟨c1, c2, c3⟩, w_lt, w_nn, w_tg t3, t4, nI_1, w_ix (by omega) (by decide), nI_clamp (by omega), t5, w_lt]
        by_cases c4 : nI many ≤ tp (tS tp n p + 1) - 97
        · rw [if_pos c4, if_pos c4]
        · rw [if_neg c4, if_neg c4]
      · rw [if_neg c3, if_neg (fun w => c3 w.2.2)]
    · rw [if_neg c2, if_neg (fun w => c2 w.2.1)]
  · rw [if_neg c1, if_neg (fun w => c1 w.1)]
theorem m_let (A : QA B g h tp n p) (sn : tS tp n p < n) {c : Int32} {many : Nat} : pX13_lettered g h (B + 187) c (nI many) = some (ltV tp n p c many) := by
  obtain ⟨T, hp, e15, e16, e14, e18, e17⟩ := A
  have S := T.1
  have n900 := T.2.2.2.2.2
  have el := tE_le (tp := tp) hp
  have sub : hI h (B + 187) 16 - hI h (B + 187) 15 = nI (tE tp n p - tS tp n p) := by rw [e15, e16]; exact pk_sub el.1
  have s2 : (hI h (B + 187) 16 - hI h (B + 187) 15 = 2) = (tE tp n p - tS tp n p = 2) := by
    rw [sub]
    exact propext (nI_eq (b := 2) (by omega) (by omega))
  have r1 : (rT tp n p = 1) = (tK tp n p = 1) := propext (rT_1.trans ⟨fun w => w.2, fun w => ⟨sn, w⟩⟩)
  unfold pX13_lettered ltV
  rw [w_tg (st_187 S), e14]
  simp only [r1]
  by_cases c1 : tK tp n p = 1
  · rw [if_pos c1]
    simp only [s2]
    by_cases c2 : tE tp n p - tS tp n p = 2
    · have y0 := (byte_all (T.2.2.2.1 (tS tp n p))).2.2.2.2.2
      have y1 := (byte_all (T.2.2.2.1 (tS tp n p + 1))).2.2.2.2.2
      have hs : pX6_sortOf (tp (tS tp n p)) = 1 := by
        unfold tK at c1
        split at c1
        · exact absurd c1 (by decide)
        · exact c1
      have hs1 : pX6_sortOf (tp (tS tp n p + 1)) = 1 := by
        have eE : tE tp n p = rup tp n 1 1000 (tS tp n p + 1) := by
          unfold tE
          rw [if_pos sn, hs, if_pos (Or.inl rfl)]
        exact rup_in tp n 1 1000 (tS tp n p + 1) _ (by omega) (by omega)
      have lk0 := m_look T (show tS tp n p ≤ 1000 by omega)
      have lk1 := m_look T (show tS tp n p + 1 ≤ 1000 by omega)
      rw [if_pos sn, y0 (Or.inl hs)] at lk0
      rw [if_pos (by omega), y1 (Or.inl hs1)] at lk1
      rw [if_pos c2, e15, lk0, w_bd]
      by_cases c3 : tp (tS tp n p) = c
      · rw [if_pos c3, if_pos ⟨c1, c2, c3⟩, nI_1, lk1, w_bd, w_lt]
        by_cases c4 : nI many ≤ tp (tS tp n p + 1) - 97
        · rw [if_pos c4, if_pos c4]
        · rw [if_neg c4, if_neg c4]
      · rw [if_neg c3, if_neg (fun w => c3 w.2.2)]
    · rw [if_neg c2, if_neg (fun w => c2 w.2.1)]
  · rw [if_neg c1, if_neg (fun w => c1 w.1)]
-- numbers
theorem dig_of {x : Int32} (h : pX6_sortOf x = 2) : 48 ≤ x.toInt ∧ x.toInt ≤ 57 := by
  unfold pX6_sortOf pX6_sortOf_b14 pX6_sortOf_b28 at h
  have e1 : (48 : Int32).toInt = 48 := rfl
  have e2 : (57 : Int32).toInt = 57 := rfl
  by_cases c : x < 48
  · rw [if_pos c] at h
    repeat' split at h
    all_goals exact absurd h (by decide)
  · by_cases d : 57 < x
    · rw [if_neg c, if_pos d] at h
      repeat' split at h
      all_goals exact absurd h (by decide)
    · rw [Int32.lt_iff_toInt_lt] at c d
      exact ⟨by omega, by omega⟩
theorem num_digs (hk : tK tp n p = 2) (sn : tS tp n p < n) : tE tp n p - tS tp n p ≤ 4 ∧ ∀ j, j < tE tp n p - tS tp n p → 48 ≤ (tp (tS tp n p + j)).toInt ∧ (tp (tS tp n p + j)).toInt ≤ 57 := by
  unfold tK at hk
  by_cases c : pX6_sortOf (tp (tS tp n p)) = 2 ∧ 4 < tE tp n p - tS tp n p
  · rw [if_pos c] at hk; exact absurd hk (by decide)
  · rw [if_neg c] at hk
    refine ⟨Nat.not_lt.mp fun w => c ⟨hk, w⟩, fun j hj => ?_⟩
    by_cases e : j = 0
    · rw [e]; exact dig_of hk
    · have eE : tE tp n p = rup tp n 2 1000 (tS tp n p + 1) := by
        unfold tE
        rw [if_pos sn, hk, if_pos (Or.inr rfl)]
      exact dig_of (rup_in tp n 2 1000 (tS tp n p + 1) _ (by omega) (by omega))
theorem nm_val {s : Nat} : ∀ m, m ≤ 4 → (∀ j, j < m → 48 ≤ (tp (s + j)).toInt ∧ (tp (s + j)).toInt ≤ 57) → ∃ v, v < 10 ^ m ∧ nmV tp s m = nI v := by
  intro m
  induction m with
  | zero => intro _ _; exact ⟨0, by decide, rfl⟩
  | succ m ih =>
    intro hm hl
    obtain ⟨v, v1, v2⟩ := ih (by omega) fun j hj => hl j (by omega)
    obtain ⟨l1, l2⟩ := hl m (by omega)
    have p4 : 10 ^ m ≤ 10 ^ 4 := Nat.pow_le_pow_right (by decide) (by omega)
    refine ⟨v * 10 + ((tp (s + m)).toInt.toNat - 48), by rw [Nat.pow_succ]; omega, ?_⟩
    show (if 4 ≤ m then _ else _) = _
    rw [if_neg (by omega), v2]
    have e1 : (10 * nI v : Int32).toInt = 10 * v := by
      rw [Int32.toInt_mul, nI_toInt (by omega), show (10 : Int32).toInt = 10 from rfl]
      exact Int.bmod_eq_of_le (by omega) (by omega)
    have e2 : (10 * nI v + tp (s + m) : Int32).toInt = 10 * v + (tp (s + m)).toInt := by
      rw [Int32.toInt_add, e1]
      exact Int.bmod_eq_of_le (by omega) (by omega)
    refine Int32.toInt_inj.mp ?_
    rw [nI_toInt (by omega), Int32.toInt_sub, e2, show (48 : Int32).toInt = 48 from rfl, Int.bmod_eq_of_le (by omega) (by omega)]
    omega
/-- what the class reads of a number, at its last digit -/
theorem k_num (A : KA B g h tp n p) (hk : tK tp n p = 2) (w : Int32) : ∃ v, v < 10000 ∧ nmV tp (tS tp n p) (tE tp n p - tS tp n p) = nI v ∧ ∀ f, 10 ≤ f → pX6_followNumber_l24 g (B + 11) w f 0 (nI (tS tp n p)) h = pX6_followNumber_b24 g (B + 11) w (fun _ _ _ => none) (nI v) (nI (tE tp n p)) h := by
  obtain ⟨T, hp, sn, e4, e5, e6⟩ := A
  obtain ⟨t1, t2, t3, t4, t5, t6, n900⟩ := T
  have el := tE_le (tp := tp) hp
  obtain ⟨m4, dg⟩ := num_digs hk sn
  have vals : ∀ m, m ≤ tE tp n p - tS tp n p → ∃ v, v < 10 ^ m ∧ nmV tp (tS tp n p) m = nI v := fun m hm => nm_val m (by omega) fun j hj => dg j (by omega)
  obtain ⟨v, v1, v2⟩ := vals _ (Nat.le_refl _)
  have p4 : 10 ^ (tE tp n p - tS tp n p) ≤ 10 ^ 4 := Nat.pow_le_pow_right (by decide) m4
  have loop : ∀ (d m f : Nat), m + d = tE tp n p - tS tp n p → d < f → pX6_followNumber_l24 g (B + 11) w f (nmV tp (tS tp n p) m) (nI (tS tp n p + m)) h = pX6_followNumber_b24 g (B + 11) w (fun _ _ _ => none) (nI v) (nI (tE tp n p)) h := by
    intro d
    induction d with
    | zero =>
      intro m f em hf
      obtain ⟨f, rfl⟩ : ∃ f', f = f' + 1 := ⟨f - 1, by omega⟩
      have em' : m = tE tp n p - tS tp n p := by omega
      rw [em', v2, show tS tp n p + (tE tp n p - tS tp n p) = tE tp n p by omega, pX6_followNumber_l24]
      unfold pX6_followNumber_b24
      rw [e5, if_pos (nI_le (Nat.le_refl _) (by omega)), if_pos (nI_le (Nat.le_refl _) (by omega))]
    | succ d ih =>
      intro m f em hf
      obtain ⟨f, rfl⟩ : ∃ f', f = f' + 1 := ⟨f - 1, by omega⟩
      have nx := ih (m + 1) f (by omega) (by omega)
      have en : nmV tp (tS tp n p) (m + 1) = (nmV tp (tS tp n p) m * 10) + (tp (tS tp n p + m) - 48) := by
        show (if 4 ≤ m then _ else _) = _
        rw [if_neg (by omega), Int32.mul_comm, Int32.sub_eq_add_neg, Int32.sub_eq_add_neg, Int32.add_assoc]
      rw [pX6_followNumber_l24, pX6_followNumber_b24, e5, if_neg (nI_ge (by omega) (by omega)), w_lt, t2, w_nn, w_tg t3, t4, w_ix (by omega) (by decide), nI_clamp (by omega), t5, w_lt, w_lt, nI_1, ← en]
      exact nx
  refine ⟨v, by omega, v2, fun f hf => ?_⟩
  exact loop (tE tp n p - tS tp n p) 0 f (by omega) (by omega)
end LET
