/-! pokeAll, peekAll -/
section PAL
variable {B : Nat} {E : EC} {op : Nat → Nat} {g : MT} {hc hr hc' hr' : CT}
theorem sI_comm (h : CT) {a b : Nat} (hab : a ≠ b) (k j : Nat) (x y : Int32) : sI (sI h a k x) b j y = sI (sI h b j y) a k x := by
  have : up2 (up2 h.1 a k x) b j y = up2 (up2 h.1 b j y) a k x := by
    funext c i
    unfold up2
    by_cases e : c = a
    · subst e
      simp only [hab, false_and, if_false]
    · simp only [e, false_and, if_false]
  show (up2 (up2 h.1 a k x) b j y, h.2.1, h.2.2.1, h.2.2.2) = (up2 (up2 h.1 b j y) a k x, h.2.1, h.2.2.1, h.2.2.2)
  rw [this]
/-- why not all of them: both alike -/
theorem whole_row (S : Sh B g) (p1 : PtC B (hR hc)) (p2 : PtR B (hR hr)) (r3 : TraR B hc hr) {t : Nat} (ht : t < 4) (a c : Int32) :
    (∃ v, (v = 3 ∨ v = 4 ∨ v = 5) ∧ pX12_wholesaleTrouble_b30 g hc B a (nI t) c = some v ∧ pX13_whyNotAll_b35 g hr (B + 187) a (nI t) c = some v)
    ∨ ∃ n m s, n ≤ m ∧ m ≤ 60 ∧ s < 4 ∧ c = nI n ∧ hI hc (B + 2 + 2 * t) 0 = 1 ∧ hI hc (B + 2 + 2 * t) 2 = nI m ∧ hI hr (B + 189) t = nI m ∧ hI hc (B + 2 + 2 * t) 1 = nI s ∧ hI hr (B + 188) t = nI s ∧ pX12_wholesaleTrouble_b30 g hc B a (nI t) c = some 0 ∧ pX13_whyNotAll_b35 g hr (B + 187) a (nI t) c = some 0 := by
  obtain ⟨q1, q2, q3, q4, q5⟩ := trayA S p1 ht
  obtain ⟨k1, k2, k3⟩ := r3 t ht
  have i60 := isIn_l c 60 (by decide)
  rw [show (lN 60 : Int64) = 60 from rfl] at i60
  have w60 : pX12_within c 0 60 = pX12_within c 0 (nI 60) := rfl
  have cl : pX12_wholesaleTrouble_b30 g hc B a (nI t) c = if hI hc (B + 2 + 2 * t) 0 = 0 then some 3 else if c ≤ hI hc (B + 2 + 2 * t) 2 then if pX12_within c 0 60 = 0 then some 5 else some 0 else some 4 := by
    unfold pX12_wholesaleTrouble_b30
    simp only [w_lt, pc_0_0 p1, w_nn, w_tg (st_1 S), sl_1 S, w_ix ht (show 4 < 2 ^ 31 by decide), nI_clamp (show t < 2 ^ 31 by omega), q1, w_tg q2]
  have rf : pX13_whyNotAll_b35 g hr (B + 187) a (nI t) c = if 0 ≤ hI hr (B + 189) t then if c ≤ hI hr (B + 189) t then if pX13_isIn (Int32.toInt64 c) 0 60 = 0 then some 5 else some 0 else some 4 else some 3 := by
    unfold pX13_whyNotAll_b35
    simp only [w_lt, pr_187_5 p2, w_nn, w_tg (st_189 S), sl_189 S, w_ix ht (show 4 < 2 ^ 31 by decide), nI_clamp (show t < 2 ^ 31 by omega)]
  rw [cl, rf]
  rcases k1 with k1 | k1
  · rw [if_pos k1, k2 k1, if_neg (by decide)]
    exact Or.inl ⟨3, Or.inl rfl, rfl, rfl⟩
  · obtain ⟨m, s, y1, y2, y3, y4, y5, y6, y7⟩ := k3 k1
    rw [if_neg (by rw [k1]; decide), y3, y4, if_pos (nI_pos' (by omega)), i60, w60]
    by_cases c1 : c ≤ nI m
    · rw [if_pos c1]
      rcases within_0 c 60 (by decide) with ⟨e, -⟩ | ⟨e, n, hn, rfl⟩
      · rw [if_pos e]; exact Or.inl ⟨5, Or.inr (Or.inr rfl), rfl, rfl⟩
      · have e' : ¬ pX12_within (nI n) 0 (nI 60) = 0 := by rw [e]; decide
        rw [if_neg e']
        exact Or.inr ⟨n, m, s, Nat.not_lt.mp fun z => (Int32.not_le.mpr (nI_lt z (by omega))) c1, y1, y2, rfl, k1, rfl, rfl, y5, y6, rfl, rfl⟩
    · rw [if_neg c1]; exact Or.inl ⟨4, Or.inr (Or.inl rfl), rfl, rfl⟩
theorem whole_trouble (S : Sh B g) (p1 : PtC B (hR hc)) (p2 : PtR B (hR hr)) (r3 : TraR B hc hr) (a b c : Int32) :
    (∃ v, (v = 1 ∨ v = 2 ∨ v = 3 ∨ v = 4 ∨ v = 5) ∧ pX12_wholesaleTrouble g hc B a b c = some v ∧ pX13_whyNotAll g hr (B + 187) a b c = some v)
    ∨ ∃ t n m s, t < 4 ∧ b = nI t ∧ n ≤ m ∧ m ≤ 60 ∧ s < 4 ∧ c = nI n ∧ (0 < n → ∃ w, a = nI w ∧ w + n ≤ 64) ∧ hI hc (B + 2 + 2 * t) 0 = 1 ∧ hI hc (B + 2 + 2 * t) 2 = nI m ∧ hI hr (B + 189) t = nI m ∧ hI hc (B + 2 + 2 * t) 1 = nI s ∧ hI hr (B + 188) t = nI s ∧ pX12_wholesaleTrouble g hc B a b c = some 0 ∧ pX13_whyNotAll g hr (B + 187) a b c = some 0 := by
  have eT : ∀ x, pX12_isTray x = pX12_within x 0 (nI 3) := fun _ => rfl
  have eW : ∀ x, pX12_isWord x = pX12_within x 0 (nI 63) := fun _ => rfl
  have i3 := isIn_l b 3 (by decide)
  rw [show (lN 3 : Int64) = 3 from rfl] at i3
  have i63 := isIn_l a 63 (by decide)
  rw [show (lN 63 : Int64) = 63 from rfl] at i63
  unfold pX12_wholesaleTrouble pX13_whyNotAll pX13_isTray pX13_isWordAt
  rw [w_tg (st_0 S), w_tg (st_187 S), eT, eW, i3, i63]
  rcases within_0 b 3 (by decide) with ⟨e0, -⟩ | ⟨e0, t, ht, rfl⟩
  · rw [if_pos e0, if_pos e0]; exact Or.inl ⟨1, Or.inl rfl, rfl, rfl⟩
  · have e0' : ¬ pX12_within (nI t) 0 (nI 3) = 0 := by rw [e0]; decide
    rw [if_neg e0', if_neg e0']
    have up := whole_row S p1 p2 r3 (show t < 4 by omega) a c
    by_cases c0 : c ≤ 0
    · rw [if_pos c0, if_pos c0]
      rcases up with ⟨v, hv, u1, u2⟩ | ⟨n, m, s, u⟩
      · exact Or.inl ⟨v, Or.inr (Or.inr hv), u1, u2⟩
      · obtain ⟨u1, u2, u3, u4, u5, u6, u7, u8, u9, u10, u11⟩ := u
        refine Or.inr ⟨t, n, m, s, by omega, rfl, u1, u2, u3, u4, fun hn => ?_, u5, u6, u7, u8, u9, u10, u11⟩
        rw [u4, Int32.le_iff_toInt_le, nI_toInt (by omega), show (0 : Int32).toInt = 0 from rfl] at c0
        omega
    · rw [if_neg c0, if_neg c0]
      rcases within_0 a 63 (by decide) with ⟨e1, -⟩ | ⟨e1, w, hw, rfl⟩
      · rw [if_pos e1, if_pos e1]; exact Or.inl ⟨2, Or.inr (Or.inl rfl), rfl, rfl⟩
      · have e1' : ¬ pX12_within (nI w) 0 (nI 63) = 0 := by rw [e1]; decide
        rw [if_neg e1', if_neg e1']
        have b1 := c.toInt_lt
        have c0' : 0 < c.toInt := by
          rw [Int32.le_iff_toInt_le, show (0 : Int32).toInt = 0 from rfl] at c0
          omega
        have cA : (c ≤ 64 - nI w) = ((w : Int) + c.toInt ≤ 64) := by
          rw [show (64 - nI w : Int32) = nI (64 - w) from pk_sub (a := 64) (by omega), Int32.le_iff_toInt_le, nI_toInt (by omega)]
          apply propext; omega
        have cB : (lg_cmp (Int32.toInt64 (nI w) + Int32.toInt64 c) 64 ≤ 0) = ((w : Int) + c.toInt ≤ 64) := by
          rw [lgc_le, Int64.toInt_add, Int32.toInt_toInt64, Int32.toInt_toInt64, nI_toInt (by omega), Int.bmod_eq_of_le (by omega) (by omega), show (64 : Int64).toInt = 64 from rfl]
        simp only [cA, cB]
        by_cases c2 : (w : Int) + c.toInt ≤ 64
        · rw [if_pos c2, if_pos c2]
          rcases up with ⟨v, hv, u1, u2⟩ | ⟨n, m, s, u⟩
          · exact Or.inl ⟨v, Or.inr (Or.inr hv), u1, u2⟩
          · obtain ⟨u1, u2, u3, u4, u5, u6, u7, u8, u9, u10, u11⟩ := u
            refine Or.inr ⟨t, n, m, s, by omega, rfl, u1, u2, u3, u4, fun hn => ⟨w, rfl, ?_⟩, u5, u6, u7, u8, u9, u10, u11⟩
            rw [u4, nI_toInt (by omega)] at c2
            omega
        · rw [if_neg c2, if_neg c2]; exact Or.inl ⟨2, Or.inr (Or.inl rfl), rfl, rfl⟩
theorem whole_v {v : Int32} (h : v = 1 ∨ v = 2 ∨ v = 3 ∨ v = 4 ∨ v = 5) : ¬ v = 0 ∧ ¬ v ≤ 0 := by
  rcases h with rfl | rfl | rfl | rfl | rfl <;> decide
end PAL
