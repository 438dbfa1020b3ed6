/-! ran, time -/
section C5
variable {B : Nat} {E : EC} {op : Nat → Nat} {g : MT} {hc hr hc' hr' : CT}
theorem m_answer (S : Sh B g) (h : CT) (x : Int32) : pX13_answer g h (B + 187) x = some (if 0 ≤ x then (x, h) else (-1, sI h (B + 187) 0 8)) := by
  unfold pX13_answer
  rw [w_tg (st_187 S), m_refuse S, w_bd2]
  split <;> rfl
theorem ge0 {x : Int32} (h : 0 ≤ x.toInt) : 0 ≤ x := by rw [Int32.le_iff_toInt_le]; exact h
theorem C_ran : K_ran B E op := by
  intro a g hc hr H
  have S := H.1
  have p1 := H.2.1
  have p2 := H.2.2.1
  obtain ⟨l1, l2, l3, l4⟩ := H.2.2.2.2.2.2.2.2.2.1
  obtain ⟨q1, q2, q3, q4, q5, q6, q7, q8, q9⟩ := H.2.2.2.1
  have i5 := isIn_l a 5 (by decide)
  rw [show (lN 5 : Int64) = 5 from rfl] at i5
  have b37 : pX12_ran_b37 g B a hc = some (-1, sI hc B 19 8) := by unfold pX12_ran_b37; rw [k_refuse S]; rfl
  have e41 : hI (sI (sI hr (B + 187) 1 0) (B + 187) 0 0) (B + 187) 41 = hI hc B 9 := by rw [hI_sI, if_pos rfl, ud_n (by decide), hI_sI, if_pos rfl, ud_n (by decide), q4]
  have e201 : hI (sI (sI hr (B + 187) 1 0) (B + 187) 0 0) (B + 201) = hI hr (B + 201) := by rw [hI_sI, if_neg (by omega), hI_sI, if_neg (by omega)]
  have r45 : hR (sI (sI hr (B + 187) 1 0) (B + 187) 0 0) (B + 187) 45 = some (B + 201) := pr_187_45 p2
  rcases within_0 a 5 (by decide) with ⟨e, -⟩ | ⟨e, j, hj, rfl⟩
  · have e' : pX12_within a 0 5 = 0 := e
    exact ⟨-1, _, _, by simp only [pX12_ran, w_tg (st_0 S), if_pos e', k_refuse S, w_bd2], by simp only [pX13_ran, w_tg (st_187 S), w_lt, i5, if_pos e, m_refuse S, w_bd2, sI_sI], H.stat 5 0⟩
  · have e' : ¬ pX12_within (nI j) 0 5 = 0 := by
      have : pX12_within (nI j) 0 5 = 1 := e
      rw [this]; decide
    have e'' : ¬ pX13_isIn (Int32.toInt64 (nI j)) 0 5 = 0 := by rw [i5]; exact e'
    rcases l1 with r0 | r1
    · exact ⟨-1, _, _, by simp only [pX12_ran, w_tg (st_0 S), if_neg e', if_pos r0, b37], by simp only [pX13_ran, w_tg (st_187 S), w_lt, if_neg e'', e41, if_pos r0, m_refuse S, w_bd2, sI_sI], H.stat 8 0⟩
    · have r0 : ¬ hI hc B 9 = 0 := by rw [r1]; decide
      obtain ⟨k1, k2, k3, k4⟩ := l3 r1
      have hm : ∀ v : Int32, hI hr (B + 201) j = v → 0 ≤ v.toInt → pX13_ran g hr (B + 187) (nI j) = some (v, sI (sI hr (B + 187) 1 0) (B + 187) 0 0) := fun v hv h0 => by
        simp only [pX13_ran, w_tg (st_187 S), w_lt, if_neg e'', e41, if_neg r0, r45, w_nn, w_tg (st_201 S), sl_201 S]
        rw [w_ix (show j < 6 by omega) (by decide), nI_clamp (show j < 2 ^ 31 by omega), e201, hv, m_answer S, if_pos (ge0 h0), w_bd2]
      have hm8 : hI hr (B + 201) j = -1 → pX13_ran g hr (B + 187) (nI j) = some (-1, sI (sI hr (B + 187) 1 0) (B + 187) 0 8) := fun hv => by
        simp only [pX13_ran, w_tg (st_187 S), w_lt, if_neg e'', e41, if_neg r0, r45, w_nn, w_tg (st_201 S), sl_201 S]
        rw [w_ix (show j < 6 by omega) (by decide), nI_clamp (show j < 2 ^ 31 by omega), e201, hv, m_answer S, if_neg (by decide), w_bd2, sI_sI]
      have hj6 : j = 0 ∨ j = 1 ∨ j = 2 ∨ j = 3 ∨ j = 4 ∨ j = 5 := by omega
      rcases hj6 with rfl | rfl | rfl | rfl | rfl | rfl
      · refine ⟨hI hc (B + 138) 0, _, _, ?_, hm _ (k1 0 (by decide)).symm (k2 0 (by decide)), H.stat 0 0⟩
        simp only [pX12_ran, pX12_ran_b44, w_tg (st_0 S), if_neg e', if_neg r0, if_pos (show nI 0 ≤ 3 by decide), if_pos (show nI 0 = 0 by decide), w_lt, pc_0_8 p1, w_nn, w_tg (st_138 S), k_answer S, w_bd2]
      · refine ⟨hI hc (B + 138) 1, _, _, ?_, hm _ (k1 1 (by decide)).symm (k2 1 (by decide)), H.stat 0 0⟩
        simp only [pX12_ran, pX12_ran_b44, w_tg (st_0 S), if_neg e', if_neg r0, if_pos (show nI 1 ≤ 3 by decide), if_neg (show ¬ nI 1 = 0 by decide), if_pos (show nI 1 = 1 by decide), w_lt, pc_0_8 p1, w_nn, w_tg (st_138 S), k_answer S, w_bd2]
      · refine ⟨hI hc (B + 138) 2, _, _, ?_, hm _ (k1 2 (by decide)).symm (k2 2 (by decide)), H.stat 0 0⟩
        simp only [pX12_ran, pX12_ran_b44, w_tg (st_0 S), if_neg e', if_neg r0, if_pos (show nI 2 ≤ 3 by decide), if_neg (show ¬ nI 2 = 0 by decide), if_neg (show ¬ nI 2 = 1 by decide), if_pos (show nI 2 = 2 by decide), w_lt, pc_0_8 p1, w_nn, w_tg (st_138 S), k_answer S, w_bd2]
      · refine ⟨hI hc (B + 138) 3, _, _, ?_, hm _ (k1 3 (by decide)).symm (k2 3 (by decide)), H.stat 0 0⟩
        simp only [pX12_ran, pX12_ran_b44, w_tg (st_0 S), if_neg e', if_neg r0, if_pos (show nI 3 ≤ 3 by decide), if_neg (show ¬ nI 3 = 0 by decide), if_neg (show ¬ nI 3 = 1 by decide), if_neg (show ¬ nI 3 = 2 by decide), if_pos (show nI 3 = 3 by decide), w_lt, pc_0_8 p1, w_nn, w_tg (st_138 S), k_answer S, w_bd2]
      · by_cases z : hI hc (B + 138) 3 = 0
        · refine ⟨-1, _, _, ?_, hm8 ((k1 4 (by decide)).symm.trans (k3 z).1), H.stat 8 0⟩
          simp only [pX12_ran, w_tg (st_0 S), if_neg e', if_neg r0, if_neg (show ¬ nI 4 ≤ 3 by decide), w_lt, pc_0_8 p1, w_nn, w_tg (st_138 S), if_pos z, b37]
        · refine ⟨hI hc (B + 138) 4, _, _, ?_, hm _ (k1 4 (by decide)).symm (k4 z).1, H.stat 0 0⟩
          simp only [pX12_ran, pX12_ran_b44, w_tg (st_0 S), if_neg e', if_neg r0, if_neg (show ¬ nI 4 ≤ 3 by decide), w_lt, pc_0_8 p1, w_nn, w_tg (st_138 S), if_neg z, if_neg (show ¬ nI 4 = 0 by decide), if_neg (show ¬ nI 4 = 1 by decide), if_neg (show ¬ nI 4 = 2 by decide), if_neg (show ¬ nI 4 = 3 by decide), if_pos (show nI 4 = 4 by decide), k_answer S, w_bd2]
      · by_cases z : hI hc (B + 138) 3 = 0
        · refine ⟨-1, _, _, ?_, hm8 ((k1 5 (by decide)).symm.trans (k3 z).2), H.stat 8 0⟩
          simp only [pX12_ran, w_tg (st_0 S), if_neg e', if_neg r0, if_neg (show ¬ nI 5 ≤ 3 by decide), w_lt, pc_0_8 p1, w_nn, w_tg (st_138 S), if_pos z, b37]
        · refine ⟨hI hc (B + 138) 5, _, _, ?_, hm _ (k1 5 (by decide)).symm (k4 z).2, H.stat 0 0⟩
          simp only [pX12_ran, pX12_ran_b44, w_tg (st_0 S), if_neg e', if_neg r0, if_neg (show ¬ nI 5 ≤ 3 by decide), w_lt, pc_0_8 p1, w_nn, w_tg (st_138 S), if_neg z, if_neg (show ¬ nI 5 = 0 by decide), if_neg (show ¬ nI 5 = 1 by decide), if_neg (show ¬ nI 5 = 2 by decide), if_neg (show ¬ nI 5 = 3 by decide), if_neg (show ¬ nI 5 = 4 by decide), k_answer S, w_bd2]
/-- of an INSTRUCTION's number: both know it alike -/
theorem instr_trouble (S : Sh B g) (p1 : PtC B (hR hc)) (p2 : PtR B (hR hr)) (hm : MacR B op g hc 13 hr 0) (a : Int32) : ∃ p π, hR hc (B + 13) 8 = some p ∧ p ≠ B + 174 ∧ WF π ∧ PgC op g hc p π ∧ PgM (hI hr (B + 192)) 0 π ∧
    ((pX12_isInstruction g hc B a = some 0 ∧ pX13_isCode g hr (B + 187) a = some 0 ∧ ∀ k, k < π.1 → ¬ a = nI k) ∨ ∃ k, k < π.1 ∧ a = nI k ∧ pX12_isInstruction g hc B a = some 1 ∧ pX13_isCode g hr (B + 187) a = some 1) := by
  obtain ⟨-, p, π, m1, mp, m2, m3, m4⟩ := hm
  have h30 := m2.1
  refine ⟨p, π, m1, mp, m2, m3, m4, ?_⟩
  have em : pJ9_min_7cf53 (nI π.1) 30 = nI π.1 := by
    unfold pJ9_min_7cf53
    rw [if_neg (show ¬ (30 : Int32) < nI π.1 from nI_nlt (b := π.1) (a := 30) h30 (by decide) |> fun z => by
      have := nI_nlt (a := 30) (b := π.1) h30 (by decide)
      exact this)]
  have cls : pX12_isInstruction g hc B a = some (pX12_within a 0 (nI π.1 - 1)) := by
    simp only [pX12_isInstruction, w_tg (st_0 S), w_lt, pc_0_4 p1, w_nn, w_tg (st_13 S), m1, w_tg m3.1, m3.2.2.2.2.1, em]
  have ref : pX13_isCode g hr (B + 187) a = some (pX12_within a 0 (nI π.1 - 1)) := by
    simp only [pX13_isCode, w_tg (st_187 S), w_lt, pr_187_19 p2, w_nn, w_tg (st_192 S), sl_192 S]
    rw [w_ixl (by decide) (by decide), cl_l 5 (by decide), show hI hr (B + 192) 5 = nI π.1 from m4.1, show (0 : Int64) = (0 : Int32).toInt64 from rfl, isIn_w]
  rw [cls, ref]
  by_cases h0 : π.1 = 0
  · have z : pX12_within a 0 (nI π.1 - 1) = 0 := by
      rw [h0]
      unfold pX12_within
      by_cases c : a < 0
      · rw [if_pos c]
      · rw [if_neg c, if_pos]
        rw [Int32.lt_iff_toInt_lt] at c ⊢
        have e1 : (nI 0 - 1 : Int32).toInt = -1 := by decide
        have e2 : (0 : Int32).toInt = 0 := rfl
        omega
    rw [z]
    exact Or.inl ⟨rfl, rfl, fun k hk => by omega⟩
  · have e1 : (nI π.1 - 1 : Int32) = nI (π.1 - 1) := pk_sub (a := π.1) (b := 1) (by omega)
    rw [e1]
    rcases within_0 a (π.1 - 1) (by omega) with ⟨e, -⟩ | ⟨e, k, hk, rfl⟩
    · rw [e]
      exact Or.inl ⟨rfl, rfl, fun k hk => no_w e (j := k) (by omega) (by omega)⟩
    · rw [e]
      exact Or.inr ⟨k, by omega, rfl, rfl, rfl⟩
theorem C_time : K_time B E op := by
  intro a b g hc hr H
  have S := H.1
  have p1 := H.2.1
  have p2 := H.2.2.1
  obtain ⟨l1, l2, l3, l4⟩ := H.2.2.2.2.2.2.2.2.2.1
  obtain ⟨q1, q2, q3, q4, q5, q6, q7, q8, q9⟩ := H.2.2.2.1
  have H0 := H.stat 0 0
  have i1 := isIn_l b 1 (by decide)
  rw [show (lN 1 : Int64) = 1 from rfl] at i1
  have hm2 : MacR B op g hc 13 (sI (sI hr (B + 187) 1 0) (B + 187) 0 0) 0 := MacR.keep (hr := hr) (hr' := sI (sI hr (B + 187) 1 0) (B + 187) 0 0) S (W := []) (OfC.rf hc) rfl (by omega) rfl (by rw [hI_sI, if_neg (by omega), hI_sI, if_neg (by omega)]) rfl H.2.2.2.2.2.2.2.1
  have p2' : PtR B (hR (sI (sI hr (B + 187) 1 0) (B + 187) 0 0)) := p2
  obtain ⟨p, π, -, -, wf, -, -, ht⟩ := instr_trouble S p1 p2' hm2 a
  have e22 : hI (sI (sI hr (B + 187) 1 0) (B + 187) 0 0) (B + 187) 22 = hI hc B 10 := by rw [hI_sI, if_pos rfl, ud_n (by decide), hI_sI, if_pos rfl, ud_n (by decide), q5]
  have e202 : hI (sI (sI hr (B + 187) 1 0) (B + 187) 0 0) (B + 202) = hI hr (B + 202) := by rw [hI_sI, if_neg (by omega), hI_sI, if_neg (by omega)]
  have e203 : hI (sI (sI hr (B + 187) 1 0) (B + 187) 0 0) (B + 203) = hI hr (B + 203) := by rw [hI_sI, if_neg (by omega), hI_sI, if_neg (by omega)]
  have r46 : hR (sI (sI hr (B + 187) 1 0) (B + 187) 0 0) (B + 187) 46 = some (B + 202) := pr_187_46 p2
  have r47 : hR (sI (sI hr (B + 187) 1 0) (B + 187) 0 0) (B + 187) 47 = some (B + 203) := pr_187_47 p2
  rcases ht with ⟨t1, t2, -⟩ | ⟨k, hk, rfl, t1, t2⟩
  · exact ⟨-1, _, _, by simp only [pX12_time, w_tg (st_0 S), t1, w_bd, if_true, k_refuse S, w_bd2], by simp only [pX13_time, w_tg (st_187 S), w_lt, t2, w_bd, if_true, m_refuse S, w_bd2, sI_sI], H.stat 2 0⟩
  · have k30 : k < 30 := by have := wf.1; omega
    have n1 : ¬ (1 : Int32) = 0 := by decide
    rcases within_0 b 1 (by decide) with ⟨e, -⟩ | ⟨e, j, hj, rfl⟩
    · have e' : pX12_within b 0 1 = 0 := e
      exact ⟨-1, _, _, by simp only [pX12_time, w_tg (st_0 S), t1, w_bd, if_neg n1, if_pos e', k_refuse S, w_bd2], by simp only [pX13_time, w_tg (st_187 S), w_lt, t2, w_bd, if_neg n1, i1, if_pos e, m_refuse S, w_bd2, sI_sI], H.stat 5 0⟩
    · have e' : ¬ pX12_within (nI j) 0 1 = 0 := by
        have : pX12_within (nI j) 0 1 = 1 := e
        rw [this]; decide
      have e'' : ¬ pX13_isIn (Int32.toInt64 (nI j)) 0 1 = 0 := by rw [i1]; exact e'
      have b67 : pX12_time_b67 g B (nI k) (nI j) hc = some (-1, sI hc B 19 8) := by unfold pX12_time_b67; rw [k_refuse S]; rfl
      have b56 : pX13_time_b56 g (B + 187) (nI k) (nI j) (sI (sI hr (B + 187) 1 0) (B + 187) 0 0) = some (-1, sI (sI hr (B + 187) 1 0) (B + 187) 0 8) := by unfold pX13_time_b56; rw [m_refuse S, sI_sI]; rfl
      have cls : pX12_time g hc B (nI k) (nI j) = pX12_time_b54 g B (nI k) (nI j) (if j = 0 then hI hc (B + 139) k else hI hc (B + 140) k) hc := by
        have hj2 : j = 0 ∨ j = 1 := by omega
        rcases hj2 with rfl | rfl
        · simp only [pX12_time, w_tg (st_0 S), t1, w_bd, if_neg n1, if_neg e', if_pos (show nI 0 = 0 by decide), w_lt, pc_0_8 p1, w_nn, w_tg (st_138 S), pc_138_6 p1, w_tg (st_139 S), sl_139 S, w_ix k30 (show 30 < 2 ^ 31 by decide), nI_clamp (show k < 2 ^ 31 by omega), if_true]
        · simp only [pX12_time, w_tg (st_0 S), t1, w_bd, if_neg n1, if_neg e', if_neg (show ¬ nI 1 = 0 by decide), w_lt, pc_0_8 p1, w_nn, w_tg (st_138 S), pc_138_7 p1, w_tg (st_140 S), sl_140 S, w_ix k30 (show 30 < 2 ^ 31 by decide), nI_clamp (show k < 2 ^ 31 by omega)]
          rfl
      have c54 : ∀ s, pX12_time_b54 g B (nI k) (nI j) s hc = if hI hc B 10 = 0 then some (-1, sI hc B 19 8) else if s = -1 then some (-1, sI hc B 19 8) else some (s, sI hc B 19 0) := fun s => by
        unfold pX12_time_b54
        rw [b67, k_answer S, w_bd2]
      rcases l2 with z0 | z1
      · refine ⟨-1, _, _, ?_, ?_, H.stat 8 0⟩
        · show pX12_time g hc B (nI k) (nI j) = _
          rw [cls, c54, if_pos z0]
        · simp only [pX13_time, w_tg (st_187 S), w_lt, t2, w_bd, if_neg n1, if_neg e'', e22, if_pos z0, b56]
      · have z0 : ¬ hI hc B 10 = 0 := by rw [z1]; decide
        obtain ⟨k1, k2⟩ := l4 z1 k k30
        rcases k2 with ⟨k2, k3⟩ | ⟨k2, k3, k4⟩
        · refine ⟨-1, _, _, ?_, ?_, H.stat 8 0⟩
          · show pX12_time g hc B (nI k) (nI j) = _
            rw [cls, c54, if_neg z0, if_pos (by split <;> assumption)]
          · simp only [pX13_time, w_tg (st_187 S), w_lt, t2, w_bd, if_neg n1, if_neg e'', e22, if_neg z0, r46, w_nn, w_tg (st_202 S), sl_202 S]
            rw [w_ix k30 (by decide), nI_clamp (show k < 2 ^ 31 by omega), e202, ← k1, k2, if_neg (by decide), b56]
        · have ne1 : ∀ x : Int32, 0 ≤ x.toInt → ¬ x = -1 := fun x hx hz => by rw [hz] at hx; exact absurd hx (by decide)
          have hj2 : j = 0 ∨ j = 1 := by omega
          rcases hj2 with rfl | rfl
          · refine ⟨hI hc (B + 139) k, _, _, ?_, ?_, H.stat 0 0⟩
            · show pX12_time g hc B (nI k) (nI 0) = _
              rw [cls, c54, if_neg z0, if_pos rfl, if_neg (ne1 _ k2)]
            · simp only [pX13_time, w_tg (st_187 S), w_lt, t2, w_bd, if_neg n1, if_neg e'', e22, if_neg z0, r46, w_nn, w_tg (st_202 S), sl_202 S]
              rw [w_ix k30 (by decide), nI_clamp (show k < 2 ^ 31 by omega), e202, ← k1, if_pos (ge0 k2), if_pos (by decide), w_ix k30 (by decide)]
          · by_cases y : hI hc (B + 140) k = -1
            · refine ⟨-1, _, _, ?_, ?_, H.stat 8 0⟩
              · show pX12_time g hc B (nI k) (nI 1) = _
                rw [cls, c54, if_neg z0, if_neg (show ¬ (1 : Nat) = 0 by decide), if_pos y]
              · simp only [pX13_time, w_tg (st_187 S), w_lt, t2, w_bd, if_neg n1, if_neg e'', e22, if_neg z0, r46, r47, w_nn, w_tg (st_202 S), sl_202 S, w_tg (st_203 S), sl_203 S]
                rw [w_ix k30 (by decide), nI_clamp (show k < 2 ^ 31 by omega), e202, ← k1, if_pos (ge0 k2), if_neg (by decide), w_ix k30 (by decide), e203, ← k3, y, m_answer S, if_neg (by decide), w_bd2, sI_sI]
            · have y2 : 0 ≤ (hI hc (B + 140) k).toInt := by
                have : (hI hc (B + 140) k).toInt ≠ -1 := fun q => y (Int32.toInt.inj q)
                omega
              refine ⟨hI hc (B + 140) k, _, _, ?_, ?_, H.stat 0 0⟩
              · show pX12_time g hc B (nI k) (nI 1) = _
                rw [cls, c54, if_neg z0, if_neg (show ¬ (1 : Nat) = 0 by decide), if_neg y]
              · simp only [pX13_time, w_tg (st_187 S), w_lt, t2, w_bd, if_neg n1, if_neg e'', e22, if_neg z0, r46, r47, w_nn, w_tg (st_202 S), sl_202 S, w_tg (st_203 S), sl_203 S]
                rw [w_ix k30 (by decide), nI_clamp (show k < 2 ^ 31 by omega), e202, ← k1, if_pos (ge0 k2), if_neg (by decide), w_ix k30 (by decide), e203, ← k3, m_answer S, if_pos (ge0 y2), w_bd2]
end C5
