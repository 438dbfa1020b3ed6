/-! word, scalar, element -/
section PTW
variable {B : Nat} {E : EC} {op : Nat → Nat} {g : MT} {hc hr : CT}
theorem Rel.scrN (H : Rel B op g hc hr) {n : Nat} (hn : n = 183 ∨ n = 184 ∨ n = 185 ∨ n = 186 ∨ n = 136 ∨ n = 137) {v : UInt64} {o : Int32} (ho : is01 o) : Rel B op g (numW hc (B + n) v o) hr := by
  have hI' : ∀ x, x ≠ B + n → hI (numW hc (B + n) v o) x = hI hc x := fun x hx => numW_I _ _ _ _ hx
  have hB := hI' B (by omega)
  refine H.obj (W := [n]) (W' := []) (fun x z1 z2 => (Eqa.rf hc x).num (z2 n (by simp))) (OfR.rf hr) ?_ ?_ rfl H.2.1 H.2.2.1 (by rw [hB]) (by rw [hB]) (by rw [hB]) (by rw [hB]) ?_ ?_
  · rcases hn with rfl | rfl | rfl | rfl | rfl | rfl <;> rfl
  · rcases hn with rfl | rfl | rfl | rfl | rfl | rfl <;> rfl
  · obtain ⟨q1, q2, q3, q4, q5, q6, q7, q8, q9⟩ := H.2.2.2.1
    unfold ObjR
    rw [hB, hI' (B + 130) (by omega), hI' (B + 11) (by omega)]
    exact ⟨q1, q2, q3, q4, q5, q6, q7, q8, q9⟩
  · obtain ⟨s1, s2, s3, s4, s5, s6⟩ := H.2.2.2.2.2.2.2.2.2.2
    have all : ∀ m, is01 (hI hc (B + m) 1) → is01 (hI (numW hc (B + n) v o) (B + m) 1) := fun m hm => by
      by_cases e : m = n
      · rw [e, numW_i]; exact ho
      · rw [hI' _ (by omega)]; exact hm
    exact ⟨all _ s1, all _ s2, all _ s3, all _ s4, all _ s5, all _ s6⟩
/-- the class fetches a number into the first of its own and tells it -/
theorem fetch_tell (H : Rel B op g hc hr) {v : UInt64} {o : Int32} {x : UInt64} (N : NumR v o x) :
    ∃ k hc' hr', pX12_tellOf g (numW hc (B + 183) v o) B (B + 183) = some (k, hc') ∧ pX13_tells g (sI (sI hr (B + 187) 1 0) (B + 187) 0 0) (B + 187) x = some (k, hr') ∧ Rel B op g hc' hr' := by
  have H2 := (H.scrN (n := 183) (by omega) (v := v) N.1).stat 0 0
  exact told_both H2 (b := B + 183) (Or.inr (Or.inr (Or.inr rfl))) (by rw [numW_d, numW_i]; exact N)
theorem C_word : K_word B E op := by
  intro a g hc hr H
  have S := H.1
  have p1 := H.2.1
  have p2 := H.2.2.1
  have hm : MacR B op g hc 13 hr 0 := H.2.2.2.2.2.2.2.1
  have i63 := isIn_l a 63 (by decide)
  rw [show (lN 63 : Int64) = 63 from rfl] at i63
  have eW : ∀ x, pX12_isWord x = pX12_within x 0 (nI 63) := fun _ => rfl
  rcases within_0 a 63 (by decide) with ⟨e, -⟩ | ⟨e, w, hw, rfl⟩
  · exact ⟨-1, _, _, by simp only [pX12_word, w_tg (st_0 S), eW, if_pos e, k_refuse S, w_bd2], by simp only [pX13_word, w_tg (st_187 S), w_lt, pX13_isWordAt, i63, if_pos e, m_refuse S, w_bd2, sI_sI], H.stat 2 0⟩
  · have e' : ¬ pX12_within (nI w) 0 (nI 63) = 0 := by rw [e]; decide
    have hN : NumR (hD hc (B + 38) w) (hI hc (B + 39) w) (hD hr (B + 193) (100 + w)) := by
      have := hm.1.2.2.2.2.2.2.2.2 w (by omega)
      rw [show 164 * 0 + 100 + w = 100 + w by omega] at this
      exact this
    have f1 := row_fetch (h := hc) (p := B + 183) (word_row S p1) (st_183 S) (show w < 64 by omega) (by decide) hN.1
    obtain ⟨k, hc', hr', t1, t2, t3⟩ := fetch_tell H hN
    have ei : (100 + nI w : Int32) = nI (100 + w) := nI_add 100 w
    refine ⟨k, hc', hr', ?_, ?_, t3⟩
    · show pX12_word g hc B (nI w) = _
      simp only [pX12_word, w_tg (st_0 S), eW, if_neg e', w_lt, pc_0_4 p1, w_nn, w_tg (st_13 S), pc_13_3 p1, pc_0_15 p1, w_tg (st_37 S)]
      rw [f1, w_bd, show hR (numW hc (B + 183) (hD hc (B + 37 + 1) w) (hI hc (B + 37 + 2) w)) B 15 = some (B + 183) from pc_0_15 p1, w_nn]
      rw [show pX12_tellOf g (numW hc (B + 183) (hD hc (B + 37 + 1) w) (hI hc (B + 37 + 2) w)) B (B + 183) = some (k, hc') from t1, w_bd2]
    · show pX13_word g hr (B + 187) (nI w) = _
      simp only [pX13_word, w_tg (st_187 S), w_lt, pX13_isWordAt, i63, if_neg e']
      rw [show hR (sI (sI hr (B + 187) 1 0) (B + 187) 0 0) (B + 187) 20 = some (B + 193) from pr_187_20 p2, w_nn, w_tg (st_193 S), sl_193 S, ei, w_ix (show 100 + w < 984 by omega) (by decide), nI_clamp (by omega)]
      rw [show hD (sI (sI hr (B + 187) 1 0) (B + 187) 0 0) (B + 193) (100 + w) = hD hr (B + 193) (100 + w) from rfl, t2, w_bd2]
theorem C_scalar : K_scalar B E op := by
  intro a g hc hr H
  have S := H.1
  have p1 := H.2.1
  have p2 := H.2.2.1
  have hm : MacR B op g hc 13 hr 0 := H.2.2.2.2.2.2.2.1
  have i3 := isIn_l a 3 (by decide)
  rw [show (lN 3 : Int64) = 3 from rfl] at i3
  have eW : pX12_within a 0 3 = pX12_within a 0 (nI 3) := rfl
  rcases within_0 a 3 (by decide) with ⟨e, -⟩ | ⟨e, w, hw, rfl⟩
  · exact ⟨-1, _, _, by simp only [pX12_scalar, w_tg (st_0 S), eW, if_pos e, k_refuse S, w_bd2], by simp only [pX13_scalar, w_tg (st_187 S), w_lt, pX13_isScalar, i3, if_pos e, m_refuse S, w_bd2, sI_sI], H.stat 2 0⟩
  · have e' : ¬ pX12_within (nI w) 0 (nI 3) = 0 := by rw [e]; decide
    have hN : NumR (hD hc (B + 35) w) (hI hc (B + 36) w) (hD hr (B + 193) (96 + w)) := by
      have := hm.1.2.2.2.2.2.2.2.1 w (by omega)
      rw [show 164 * 0 + 96 + w = 96 + w by omega] at this
      exact this
    have f1 := row_fetch (h := hc) (p := B + 183) (scal_row S p1) (st_183 S) (show w < 4 by omega) (by decide) hN.1
    obtain ⟨k, hc', hr', t1, t2, t3⟩ := fetch_tell H hN
    have ei : (96 + nI w : Int32) = nI (96 + w) := nI_add 96 w
    refine ⟨k, hc', hr', ?_, ?_, t3⟩
    · show pX12_scalar g hc B (nI w) = _
      simp only [pX12_scalar, w_tg (st_0 S), eW, if_neg e', w_lt, pc_0_4 p1, w_nn, w_tg (st_13 S), pc_13_2 p1, pc_0_15 p1, w_tg (st_34 S)]
      rw [f1, w_bd, show hR (numW hc (B + 183) (hD hc (B + 34 + 1) w) (hI hc (B + 34 + 2) w)) B 15 = some (B + 183) from pc_0_15 p1, w_nn]
      rw [show pX12_tellOf g (numW hc (B + 183) (hD hc (B + 34 + 1) w) (hI hc (B + 34 + 2) w)) B (B + 183) = some (k, hc') from t1, w_bd2]
    · show pX13_scalar g hr (B + 187) (nI w) = _
      simp only [pX13_scalar, w_tg (st_187 S), w_lt, pX13_isScalar, i3, if_neg e']
      rw [show hR (sI (sI hr (B + 187) 1 0) (B + 187) 0 0) (B + 187) 20 = some (B + 193) from pr_187_20 p2, w_nn, w_tg (st_193 S), sl_193 S, ei, w_ix (show 96 + w < 984 by omega) (by decide), nI_clamp (by omega)]
      rw [show hD (sI (sI hr (B + 187) 1 0) (B + 187) 0 0) (B + 193) (96 + w) = hD hr (B + 193) (96 + w) from rfl, t2, w_bd2]
theorem C_element : K_element B E op := by
  intro a b g hc hr H
  have S := H.1
  have p1 := H.2.1
  have p2 := H.2.2.1
  have hm : MacR B op g hc 13 hr 0 := H.2.2.2.2.2.2.2.1
  have i5 := isIn_l a 5 (by decide)
  rw [show (lN 5 : Int64) = 5 from rfl] at i5
  have i15 := isIn_l b 15 (by decide)
  rw [show (lN 15 : Int64) = 15 from rfl] at i15
  have e192 : hI (sI (sI hr (B + 187) 1 0) (B + 187) 0 0) (B + 192) = hI hr (B + 192) := by rw [hI_sI, if_neg (by omega), hI_sI, if_neg (by omega)]
  have r19 : hR (sI (sI hr (B + 187) 1 0) (B + 187) 0 0) (B + 187) 19 = some (B + 192) := pr_187_19 p2
  have b15 : pX12_within b 0 15 = pX12_within b 0 (nI 15) := rfl
  have a5 : pX12_within a 0 5 = pX12_within a 0 (nI 5) := rfl
  rcases within_0 b 15 (by decide) with ⟨e, -⟩ | ⟨e, j, hj, rfl⟩
  · refine ⟨-1, _, _, by simp only [pX12_element, w_tg (st_0 S), b15, if_pos e, k_refuse S, w_bd2], ?_, H.stat 2 0⟩
    simp only [pX13_element, pX13_element_b24, w_tg (st_187 S), w_lt, pX13_isRow, pX13_isElement, i15, if_pos e, m_refuse S, w_bd2, sI_sI]
    split <;> rfl
  · have e' : ¬ pX12_within (nI j) 0 (nI 15) = 0 := by rw [e]; decide
    rcases row_trouble S p1 hm a with ⟨q, t⟩ | ⟨r, hr6, rfl, q, t⟩
    · rw [a5] at q
      exact ⟨-1, _, _, by simp only [pX12_element, w_tg (st_0 S), b15, if_neg e', t, w_bd, if_neg (show ¬ (2 : Int32) = 0 by decide), k_refuse S, w_bd2], by simp only [pX13_element, pX13_element_b24, w_tg (st_187 S), w_lt, pX13_isRow, i5, if_pos q, m_refuse S, w_bd2, sI_sI], H.stat 2 0⟩
    · rw [a5] at q
      have hh := has_there hm hr6
      rw [← e192] at hh
      have mm : pX13_element g hr (B + 187) (nI r) (nI j) = if hI hc (B + 33) r = 0 then some (-1, sI (sI (sI hr (B + 187) 1 0) (B + 187) 0 0) (B + 187) 0 3) else (bd2 (pX13_tells g (sI (sI hr (B + 187) 1 0) (B + 187) 0 0) (B + 187) (hD hr (B + 193) (16 * r + j))) fun x17 h15 => some (x17, h15)) := by
        have ei : (16 * nI r + nI j : Int32) = nI (16 * r + j) := by
          rw [show (16 : Int32) = nI 16 from rfl, pk_mul, nI_add]
        simp only [pX13_element, w_tg (st_187 S), w_lt, pX13_isRow, pX13_isElement, i5, i15, if_neg q, if_neg e', r19, w_nn, w_tg (st_192 S), sl_192 S]
        rw [show (4 : Int32) = nI 4 from rfl, w_ix (show 4 < 1476 by decide) (by decide), nI_clamp (by decide), hh]
        by_cases c : hI hc (B + 33) r = 0
        · simp only [if_pos c, if_true, m_refuse S, w_bd2]
        · simp only [if_neg c, if_neg (show ¬ (1 : Int32) = 0 by decide)]
          rw [show hR (sI (sI hr (B + 187) 1 0) (B + 187) 0 0) (B + 187) 20 = some (B + 193) from pr_187_20 p2, w_nn, w_tg (st_193 S), sl_193 S, ei, w_ix (show 16 * r + j < 984 by omega) (by decide), nI_clamp (by omega)]
          rfl
      rcases t with ⟨c, t⟩ | ⟨c, t⟩
      · exact ⟨-1, _, _, by simp only [pX12_element, w_tg (st_0 S), b15, if_neg e', t, w_bd, if_neg (show ¬ (3 : Int32) = 0 by decide), k_refuse S, w_bd2], (show pX13_element g hr (B + 187) (nI r) (nI j) = _ by rw [mm, if_pos c, sI_sI]), H.stat 3 0⟩
      · obtain ⟨M1, M2, M3, M4, M5, -⟩ := machA_13 S p1
        obtain ⟨R1, R2⟩ := M5 r hr6
        have hN : NumR (hD hc (B + 13 + 2 + 3 * r + 1) j) (hI hc (B + 13 + 2 + 3 * r + 2) j) (hD hr (B + 193) (16 * r + j)) := by
          have := hm.1.2.2.2.2.2.2.1 r hr6 j (by omega)
          rw [show 164 * 0 + 16 * r + j = 16 * r + j by omega, show B + 13 + 3 + 3 * r = B + 13 + 2 + 3 * r + 1 by omega, show B + 13 + 4 + 3 * r = B + 13 + 2 + 3 * r + 2 by omega] at this
          exact this
        have f1 := row_fetch (h := hc) (p := B + 183) R2 (st_183 S) (show j < 16 by omega) (by decide) hN.1
        obtain ⟨k, hc', hr', t1, t2, t3⟩ := fetch_tell H hN
        refine ⟨k, hc', hr', ?_, ?_, t3⟩
        · show pX12_element g hc B (nI r) (nI j) = _
          simp only [pX12_element, w_tg (st_0 S), b15, if_neg e', t, w_bd, if_true, w_lt, pc_0_4 p1, w_nn, w_tg M1, M2, pc_0_15 p1, w_tg M3, M4, w_ix hr6 (show 6 < 2 ^ 31 by decide), nI_clamp (show r < 2 ^ 31 by omega), R1, w_tg R2.1]
          rw [f1, w_bd, show ∀ v o, hR (numW hc (B + 183) v o) B 15 = some (B + 183) from fun v o => pc_0_15 p1, w_nn, t1, w_bd2]
        · show pX13_element g hr (B + 187) (nI r) (nI j) = _
          rw [mm, if_neg (by rw [c]; decide), t2, w_bd2]
end PTW
