/-! sums -/
section SUO
variable {B : Nat} {E : EC} {op : Nat → Nat} {g : MT} {hc hr : CT}
theorem C_sums : K_sums B E op := by
  intro a g hc hr H
  have S := H.1
  have p1 := H.2.1
  have p2 := H.2.2.1
  have hm : MacR B op g hc 13 hr 0 := H.2.2.2.2.2.2.2.1
  have i5 := isIn_l a 5 (by decide)
  rw [show (lN 5 : Int64) = 5 from rfl] at i5
  have e192 : hI (sI (sI hr (B + 187) 1 0) (B + 187) 0 0) (B + 192) = hI hr (B + 192) := by rw [hI_sI, if_neg (by omega), hI_sI, if_neg (by omega)]
  have a5 : pX12_within a 0 5 = pX12_within a 0 (nI 5) := rfl
  rcases row_trouble S p1 hm a with ⟨q, t⟩ | ⟨r, hr6, rfl, q, t⟩
  · rw [a5] at q
    exact ⟨-1, _, _, by simp only [pX12_sums, w_tg (st_0 S), t, w_bd, if_neg (show ¬ (2 : Int32) = 0 by decide), k_refuse S, w_bd2], by simp only [pX13_sums, w_tg (st_187 S), w_lt, pX13_isRow, i5, if_pos q, m_refuse S, w_bd2, sI_sI], H.stat 2 0⟩
  · rw [a5] at q
    have hh := has_there hm hr6
    rw [← e192] at hh
    have ms := misses_of S (h := sI (sI hr (B + 187) 1 0) (B + 187) 0 0) p2 hh
    rcases t with ⟨c, t⟩ | ⟨c, t⟩
    · rw [if_pos c] at ms
      exact ⟨-1, _, _, by simp only [pX12_sums, w_tg (st_0 S), t, w_bd, if_neg (show ¬ (3 : Int32) = 0 by decide), k_refuse S, w_bd2], by simp only [pX13_sums, w_tg (st_187 S), w_lt, pX13_isRow, i5, if_neg q, ms, w_bd, if_neg (show ¬ (1 : Int32) = 0 by decide), m_refuse S, w_bd2, sI_sI], H.stat 3 0⟩
    · rw [if_neg (by rw [c]; decide)] at ms
      obtain ⟨n, P⟩ := SumP_of (H.thr 0) hr6
      have P0 : SumP B g r n hc (sI (sI hr (B + 187) 1 0) (B + 187) 0 0) := by
        obtain ⟨z1, z2, z3, z4, z5, z6, z7, z8, z9⟩ := P
        exact ⟨z1, z2, z3, z4, z5, by rw [hI_sI, if_neg (by omega)]; exact z6, z7, z8, z9⟩
      obtain ⟨h1, sr1, x, a1, a2, a3, a4, a5, a6⟩ := sum_into (t := 184) (by omega) P0 (k := 0) (Or.inl rfl)
      have P1 := P0.keep (t := 184) (by omega) a4 a5 a6
      obtain ⟨h2, sr2, y, b1, b2, b3, b4, b5, b6⟩ := sum_into (t := 185) (by omega) P1 (k := 1) (Or.inr (Or.inl rfl))
      have P2 := P1.keep (t := 185) (by omega) b4 b5 b6
      obtain ⟨h3, sr3, z, c1, c2, c3, c4, c5, c6⟩ := sum_into (t := 186) (by omega) P2 (k := 2) (Or.inr (Or.inr rfl))
      have H1 := (H.stat 0 0).fold (t := 184) (by omega) (a4.stat (by decide)) a5 (by rw [hI_sI, if_neg (by omega)]; exact a6) (by rw [hI_sI, if_neg (by omega)]; exact a3.1)
      have H2 := H1.fold (t := 185) (by omega) (b4.stat (by decide)) b5 (by rw [hI_sI, if_neg (by omega)]; exact b6) (by rw [hI_sI, if_neg (by omega)]; exact b3.1)
      have H3 := H2.fold (t := 186) (by omega) (c4.stat (by decide)) c5 (by rw [hI_sI, if_neg (by omega)]; exact c6) (by rw [hI_sI, if_neg (by omega)]; exact c3.1)
      have k1 := b4.2 (B + 184) (by omega) (by omega) (by omega) (by omega)
      have k2 := c4.2 (B + 184) (by omega) (by omega) (by omega) (by omega)
      have k3 := c4.2 (B + 185) (by omega) (by omega) (by omega) (by omega)
      have n1 : NumR (hD h2 (B + 184) 0) (hI h2 (B + 184) 1) x := by rw [k1.1, k1.2.2.1]; exact a3
      have n1' : NumR (hD h3 (B + 184) 0) (hI h3 (B + 184) 1) x := by rw [k2.1, k2.2.2.1]; exact n1
      have n2' : NumR (hD h3 (B + 185) 0) (hI h3 (B + 185) 1) y := by rw [k3.1, k3.2.2.1]; exact b3
      have l1 := n_alike (h := h2) (st_184 S) (st_185 S) n1 b3
      have l2 := n_alike (h := h3) (st_186 S) (st_184 S) c3 n1'
      have l3 := n_alike (h := h3) (st_186 S) (st_185 S) c3 n2'
      have q1 : hR h1 = hR hc := a4.1
      have q2 : hR h2 = hR hc := b4.1.trans q1
      have q3 : hR h3 = hR hc := c4.1.trans q2
      have fin : ∀ f : Int32, pX12_sums_b91 g B (nI r) (pX13_areAlike x y) f h3 = some (1 + (if pX13_areAlike x y = 0 then 1 else 0) + (if f = 0 then 1 else 0), sI h3 B 19 0) := fun f => by
        unfold pX12_sums_b91 pX12_sums_b104 pX12_sums_b115
        by_cases d1 : pX13_areAlike x y = 0
        · by_cases d2 : f = 0
          · simp only [if_pos d1, if_pos d2, w_tg (st_0 S), k_answer S, w_bd2]
          · simp only [if_pos d1, if_neg d2, w_tg (st_0 S), k_answer S, w_bd2]
        · by_cases d2 : f = 0
          · simp only [if_neg d1, if_pos d2, w_tg (st_0 S), k_answer S, w_bd2]
          · simp only [if_neg d1, if_neg d2, w_tg (st_0 S), k_answer S, w_bd2]
      have cl : ∃ f : Int32, pX12_sums g hc B (nI r) = pX12_sums_b91 g B (nI r) (pX13_areAlike x y) f h3 ∧ (f = 0 ↔ (pX13_areAlike z x = 0 ∧ pX13_areAlike z y = 0)) := by
        have base : pX12_sums g hc B (nI r) = if pX13_areAlike z x = 0 then (if pX13_areAlike z y = 0 then pX12_sums_b91 g B (nI r) (pX13_areAlike x y) 0 h3 else pX12_sums_b86 g B (nI r) (pX13_areAlike x y) h3) else pX12_sums_b86 g B (nI r) (pX13_areAlike x y) h3 := by
          simp only [pX12_sums, w_tg (st_0 S), t, w_bd, if_true, w_lt, pc_0_16 p1, w_nn, a1, q1, pc_0_17 p1, b1, q2, w_tg (st_184 S), l1, pc_0_18 p1, c1, q3, w_tg (st_186 S), l2, l3]
        rw [base]
        by_cases d1 : pX13_areAlike z x = 0
        · by_cases d2 : pX13_areAlike z y = 0
          · exact ⟨0, by rw [if_pos d1, if_pos d2], fun _ => ⟨d1, d2⟩, fun _ => rfl⟩
          · exact ⟨1, by rw [if_pos d1, if_neg d2]; rfl, fun e => absurd e (by decide), fun e => absurd e.2 d2⟩
        · exact ⟨1, by rw [if_neg d1]; rfl, fun e => absurd e (by decide), fun e => absurd e.1 d1⟩
      obtain ⟨f, f1, f2⟩ := cl
      refine ⟨1 + (if pX13_areAlike x y = 0 then 1 else 0) + (if f = 0 then 1 else 0), sI h3 B 19 0, sr3, f1.trans (fin f), ?_, H3⟩
      show pX13_sums g hr (B + 187) (nI r) = _
      simp only [pX13_sums, w_tg (st_187 S), w_lt, pX13_isRow, i5, if_neg q, ms, w_bd, if_true, a2, w_bd2, b2, c2]
      unfold pX13_sums_b74 pX13_sums_b95
      by_cases d0 : pX13_areAlike x y = 0
      · by_cases d1 : pX13_areAlike z x = 0
        · by_cases d2 : pX13_areAlike z y = 0
          · rw [if_pos d0, if_pos d1, if_pos d2, if_pos d0, if_pos (f2.mpr ⟨d1, d2⟩)]; rfl
          · rw [if_pos d0, if_pos d1, if_neg d2, if_pos d0, if_neg (fun e => d2 (f2.mp e).2)]; rfl
        · rw [if_pos d0, if_neg d1, if_pos d0, if_neg (fun e => d1 (f2.mp e).1)]; rfl
      · by_cases d1 : pX13_areAlike z x = 0
        · by_cases d2 : pX13_areAlike z y = 0
          · rw [if_neg d0, if_pos d1, if_pos d2, if_neg d0, if_pos (f2.mpr ⟨d1, d2⟩)]; rfl
          · rw [if_neg d0, if_pos d1, if_neg d2, if_neg d0, if_neg (fun e => d2 (f2.mp e).2)]; rfl
        · rw [if_neg d0, if_neg d1, if_neg d0, if_neg (fun e => d1 (f2.mp e).1)]; rfl
end SUO
