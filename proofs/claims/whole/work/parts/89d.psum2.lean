/-! sum, sums: the calls -/
section SUN
variable {B : Nat} {E : EC} {op : Nat → Nat} {g : MT} {hc hr : CT}
theorem sum_into {r n t : Nat} (ht : t = 136 ∨ t = 183 ∨ t = 184 ∨ t = 185 ∨ t = 186) {h sr : CT} (P : SumP B g r n h sr) {k : Int32} (hk : k = 0 ∨ k = 1 ∨ k = 2) :
    ∃ h' sr' x, pX12_sumInto g h B (B + t) (nI r) k = some h' ∧ pX13_summed g sr (B + 187) (nI r) k = some (x, sr') ∧ NumR (hD h' (B + t) 0) (hI h' (B + t) 1) x ∧ FrF B t h h' ∧ FrG B sr sr' ∧ is01 (hI h' (B + 137) 1) := by
  have P' := P
  obtain ⟨S, p, p2, i1, n1, n2, hn, hr6, R⟩ := P
  have Tt := t_tag S ht
  obtain ⟨M1, M2, M3, M4, M5, -⟩ := machA_13 S p
  obtain ⟨R1, R2⟩ := M5 r hr6
  have e3 : B + 13 + 2 + 3 * r + 1 = B + 13 + 3 + 3 * r := by omega
  have e4 : B + 13 + 2 + 3 * r + 2 = B + 13 + 4 + 3 * r := by omega
  have sm : pX13_summed g sr (B + 187) (nI r) k = if nI n = 0 then some (0, sr) else if k = 2 then bd2 (pX13_folded g sr (B + 187) (nI r) (nI n) 1) (fun x11 h9 => some (x11, h9)) else if k = 0 then pX13_summed_b45 g (B + 187) (nI r) k (nI n) (some (B + 193)) (16 * nI r) 0 sr else pX13_summed_b45 g (B + 187) (nI r) k (nI n) (some (B + 193)) (16 * nI r) (nI n - 1) sr := by
    unfold pX13_summed
    simp only [w_tg (st_187 S), w_lt, pr_187_19 p2, w_nn, w_tg (st_192 S), sl_192 S, pr_187_20 p2]
    rw [show (0 : Int32) = nI 0 from rfl, w_ix (show 0 < 1476 by decide) (by decide), nI_clamp (by decide), n2]
  by_cases k2 : k = 2
  · obtain ⟨h', sr', x, a1, a2, a3, a4, a5, a6⟩ := fold_both (cc := 0) (cr := 1) S p p2 ht (Or.inl ⟨rfl, by decide⟩) hr6 hn i1 R
    have c1 : pX12_sumInto g h B (B + t) (nI r) k = some h' := by
      unfold pX12_sumInto
      rw [w_tg (st_0 S), if_pos k2]
      simp only [w_lt, pc_0_7 p, pc_0_4 p, w_nn, w_tg M1, M2, w_tg M3, M4, w_ix hr6 (show 6 < 2 ^ 31 by decide), nI_clamp (show r < 2 ^ 31 by omega), R1, w_tg (st_132 S), n1, a1, w_bd]
    by_cases c0 : n = 0
    · subst c0
      have f0 : pX13_folded g sr (B + 187) (nI r) (nI 0) 1 = some (0, sI sr (B + 187) 44 0) := by
        unfold pX13_folded
        rw [w_tg (st_187 S), show FUEL = 4999 + 1 from rfl, pX13_folded_l3, pX13_folded_b3, if_pos (by decide), w_lt, show FUEL = 4999 + 1 from rfl, pX13_folded_l42, pX13_folded_b42, if_pos (by decide), if_pos (by decide), if_neg (by decide)]
      rw [f0] at a2
      have : x = 0 := by
        have := congrArg (fun z => (z.map Prod.fst)) a2
        simp only [Option.map_some, Option.some.injEq] at this
        exact this.symm
      subst this
      exact ⟨h', sr, 0, c1, by rw [sm, if_pos (by decide)], a3, a4, FrG.rf B sr, a6⟩
    · refine ⟨h', sr', x, c1, ?_, a3, a4, a5, a6⟩
      have nz : ¬ nI n = 0 := fun z => c0 (by
        have := congrArg Int32.toInt z
        rw [nI_toInt (by omega), show (0 : Int32).toInt = 0 from rfl] at this
        omega)
      rw [sm, if_neg nz, if_pos k2, a2, w_bd2]
  · -- one after the other
    have ka : ∃ k' : Int32, k' = (if k = 1 then 1 else 0) ∧ k' = k := by
      rcases hk with rfl | rfl | rfl
      · exact ⟨0, by decide, rfl⟩
      · exact ⟨1, by decide, rfl⟩
      · exact absurd rfl k2
    have ci : ∀ y, pX9_addUp g h (B + 132) (B + 13 + 2 + 3 * r) (nI n) k (B + t) = some y → pX12_sumInto g h B (B + t) (nI r) k = some y := fun y hy => by
      unfold pX12_sumInto pX12_sumInto_b63
      rw [w_tg (st_0 S), if_neg k2]
      simp only [w_lt, pc_0_7 p, pc_0_4 p, w_nn, w_tg M1, M2, w_tg M3, M4, w_ix hr6 (show 6 < 2 ^ 31 by decide), nI_clamp (show r < 2 ^ 31 by omega), R1, w_tg (st_132 S), n1]
      obtain ⟨k', e1, e2⟩ := ka
      by_cases c1 : k = 1
      · rw [if_pos c1]
        rw [c1] at hy
        rw [hy, w_bd]
      · rw [if_neg c1]
        rw [if_neg c1] at e1
        rw [← e2, e1] at hy
        rw [hy, w_bd]
    obtain ⟨v, o, s1, s2⟩ := n_setKind (h := h) Tt 1 (Or.inl rfl)
    have F0 : FrF B t h (numW h (B + t) v o) := ⟨rfl, fun y _ _ _ y4 => (Eqa.rf h y).num y4⟩
    have i0 : is01 (hI (numW h (B + t) v o) (B + 137) 1) := by rw [numW_I _ _ _ _ (by omega)]; exact i1
    by_cases c0 : n = 0
    · subst c0
      refine ⟨numW h (B + t) v o, sr, 0, ci _ ?_, by rw [sm, if_pos (by decide)], by rw [numW_d, numW_i]; exact s2, F0, FrG.rf B sr, i0⟩
      unfold pX9_addUp pX9_addUp_b27
      rw [w_tg (st_132 S), w_tg Tt, s1, w_bd, if_pos (by decide), show FUEL = 4999 + 1 from rfl, pX9_addUp_l30, pX9_addUp_b30, if_pos (by decide)]
    · have nz : ¬ nI n = 0 := fun z => c0 (by
        have := congrArg Int32.toInt z
        rw [nI_toInt (by omega), show (0 : Int32).toInt = 0 from rfl] at this
        omega)
      have nle : ¬ nI n ≤ 0 := nI_ge (a := 0) (b := n) (by omega) (by omega)
      have hx : pix k n 0 < n := by unfold pix; split <;> omega
      have P0 := P'.keep ht F0 (FrG.rf B sr) i0
      have N := R (pix k n 0) (by omega)
      have f1 := row_fetch (h := numW h (B + t) v o) (p := B + t) (show RowA g (hR (numW h (B + t) v o)) (B + 13 + 2 + 3 * r) 16 from R2) Tt (show pix k n 0 < 16 by omega) (by decide) (by rw [e4, numW_I _ _ _ _ (by omega)]; exact N.1)
      rw [e3, e4, numW_W, numW_D _ _ _ _ (show B + 13 + 3 + 3 * r ≠ B + t by omega), numW_I _ _ _ _ (show B + 13 + 4 + 3 * r ≠ B + t by omega)] at f1
      have F1 : FrF B t h (numW h (B + t) (hD h (B + 13 + 3 + 3 * r) (pix k n 0)) (hI h (B + 13 + 4 + 3 * r) (pix k n 0))) := ⟨rfl, fun y _ _ _ y4 => (Eqa.rf h y).num y4⟩
      have i1' : is01 (hI (numW h (B + t) (hD h (B + 13 + 3 + 3 * r) (pix k n 0)) (hI h (B + 13 + 4 + 3 * r) (pix k n 0))) (B + 137) 1) := by rw [numW_I _ _ _ _ (by omega)]; exact i1
      obtain ⟨h', y, b1, b2, b3, b4, b5⟩ := add_loop ht (k := k) (n - 1) 1 FUEL FUEL _ sr (hD sr (B + 193) (16 * r + pix k n 0)) (by omega) (by unfold FUEL; omega) (by unfold FUEL; omega) (P'.keep ht F1 (FrG.rf B sr) i1') (by rw [numW_d, numW_i]; exact N)
      refine ⟨h', sr, y, ci _ ?_, ?_, b3, F1.tr b4, FrG.rf B sr, b5⟩
      · have go : pX9_addUp_b22 g (B + 132) (B + 13 + 2 + 3 * r) (nI n) k (B + t) (B + 13 + 2 + 3 * r) (nI (pix k n 0)) (numW h (B + t) v o) = some h' := by
          unfold pX9_addUp_b22 pX9_addUp_b27
          rw [w_tg R2.1, f1, w_bd]
          exact b1
        unfold pX9_addUp
        rw [w_tg (st_132 S), w_tg Tt, s1, w_bd, if_neg nle, ← go]
        by_cases c1 : k = 0
        · rw [if_pos c1]; unfold pix; rw [if_pos c1]; rfl
        · rw [if_neg c1]; unfold pix; rw [if_neg c1, show (nI n - 1 : Int32) = nI (n - 1) from pk_sub (a := n) (b := 1) (by omega), Nat.sub_zero]
      · have go : pX13_summed_b45 g (B + 187) (nI r) k (nI n) (some (B + 193)) (16 * nI r) (nI (pix k n 0)) sr = some (y, sr) := by
          unfold pX13_summed_b45
          have ei : (16 * nI r + nI (pix k n 0) : Int32) = nI (16 * r + pix k n 0) := by rw [show (16 : Int32) = nI 16 from rfl, pk_mul, nI_add]
          rw [w_nn, w_tg (st_193 S), sl_193 S, ei, w_ix (show 16 * r + pix k n 0 < 984 by omega) (by decide), w_lt, nI_clamp (by omega)]
          exact b2
        rw [sm, if_neg nz, if_neg k2, ← go]
        by_cases c1 : k = 0
        · rw [if_pos c1]; unfold pix; rw [if_pos c1]; rfl
        · rw [if_neg c1]; unfold pix; rw [if_neg c1, show (nI n - 1 : Int32) = nI (n - 1) from pk_sub (a := n) (b := 1) (by omega), Nat.sub_zero]
theorem misses_of (S : Sh B g) {h : CT} (p2 : PtR B (hR h)) {a f : Int32} (hh : pX13_has (hI h (B + 192) 4) a = if f = 0 then 0 else 1) : pX13_misses g h (B + 187) a = some (if f = 0 then 1 else 0) := by
  unfold pX13_misses
  rw [w_tg (st_187 S), w_lt, pr_187_19 p2, w_nn, w_tg (st_192 S), sl_192 S, show (4 : Int32) = nI 4 from rfl, w_ix (show 4 < 1476 by decide) (by decide), nI_clamp (by decide), hh]
  by_cases c : f = 0
  · rw [if_pos c, if_pos c, if_pos rfl]
  · rw [if_neg c, if_neg c, if_neg (by decide)]
theorem C_sum : K_sum B E op := by
  intro a b g hc hr H
  have S := H.1
  have p1 := H.2.1
  have p2 := H.2.2.1
  have hm : MacR B op g hc 13 hr 0 := H.2.2.2.2.2.2.2.1
  have i5 := isIn_l a 5 (by decide)
  rw [show (lN 5 : Int64) = 5 from rfl] at i5
  have i2 := isIn_l b 2 (by decide)
  rw [show (lN 2 : Int64) = 2 from rfl] at i2
  have e192 : hI (sI (sI hr (B + 187) 1 0) (B + 187) 0 0) (B + 192) = hI hr (B + 192) := by rw [hI_sI, if_neg (by omega), hI_sI, if_neg (by omega)]
  have b2 : pX12_within b 0 2 = pX12_within b 0 (nI 2) := rfl
  have a5 : pX12_within a 0 5 = pX12_within a 0 (nI 5) := rfl
  rcases row_trouble S p1 hm a with ⟨q, t⟩ | ⟨r, hr6, rfl, q, t⟩
  · rw [a5] at q
    exact ⟨-1, _, _, by simp only [pX12_sum, w_tg (st_0 S), t, w_bd, if_neg (show ¬ (2 : Int32) = 0 by decide), k_refuse S, w_bd2], by simp only [pX13_sum, w_tg (st_187 S), w_lt, pX13_isRow, i5, if_pos q, m_refuse S, w_bd2, sI_sI], H.stat 2 0⟩
  · rw [a5] at q
    have hh := has_there hm hr6
    rw [← e192] at hh
    have ms := misses_of S (h := sI (sI hr (B + 187) 1 0) (B + 187) 0 0) p2 hh
    rcases t with ⟨c, t⟩ | ⟨c, t⟩
    · rw [if_pos c] at ms
      exact ⟨-1, _, _, by simp only [pX12_sum, w_tg (st_0 S), t, w_bd, if_neg (show ¬ (3 : Int32) = 0 by decide), k_refuse S, w_bd2], by simp only [pX13_sum, w_tg (st_187 S), w_lt, pX13_isRow, i5, if_neg q, ms, w_bd, if_neg (show ¬ (1 : Int32) = 0 by decide), m_refuse S, w_bd2, sI_sI], H.stat 3 0⟩
    · rw [if_neg (by rw [c]; decide)] at ms
      rcases within_0 b 2 (by decide) with ⟨e, -⟩ | ⟨e, j, hj, rfl⟩
      · exact ⟨-1, _, _, by simp only [pX12_sum, w_tg (st_0 S), t, w_bd, if_true, b2, if_pos e, k_refuse S, w_bd2], by simp only [pX13_sum, w_tg (st_187 S), w_lt, pX13_isRow, i5, if_neg q, ms, w_bd, if_true, i2, if_pos e, m_refuse S, w_bd2, sI_sI], H.stat 5 0⟩
      · have e' : ¬ pX12_within (nI j) 0 (nI 2) = 0 := by rw [e]; decide
        obtain ⟨n, P⟩ := SumP_of (H.thr 0) hr6
        have P0 : SumP B g r n hc (sI (sI hr (B + 187) 1 0) (B + 187) 0 0) := by
          obtain ⟨z1, z2, z3, z4, z5, z6, z7, z8, z9⟩ := P
          exact ⟨z1, z2, z3, z4, z5, by rw [hI_sI, if_neg (by omega)]; exact z6, z7, z8, z9⟩
        have hk : nI j = 0 ∨ nI j = 1 ∨ nI j = 2 := by
          rcases (by omega : j = 0 ∨ j = 1 ∨ j = 2) with rfl | rfl | rfl
          · exact Or.inl rfl
          · exact Or.inr (Or.inl rfl)
          · exact Or.inr (Or.inr rfl)
        obtain ⟨h', sr', x, s1, s2, s3, s4, s5, s6⟩ := sum_into (t := 183) (Or.inr (Or.inl rfl)) P0 hk
        have HF := (H.stat 0 0).fold (t := 183) (Or.inr (Or.inl rfl)) (s4.stat (by decide)) s5 (by rw [hI_sI, if_neg (by omega)]; exact s6) (by rw [hI_sI, if_neg (by omega)]; exact s3.1)
        obtain ⟨k, hc', hr', t1, t2, t3⟩ := told_both (hc := h') HF (b := B + 183) (Or.inr (Or.inr (Or.inr rfl))) s3
        refine ⟨k, hc', hr', ?_, ?_, t3⟩
        · show pX12_sum g hc B (nI r) (nI j) = _
          simp only [pX12_sum, w_tg (st_0 S), t, w_bd, if_true, b2, if_neg e', w_lt, pc_0_15 p1, w_nn, s1]
          rw [s4.1, pc_0_15 p1, w_nn, t1, w_bd2]
        · show pX13_sum g hr (B + 187) (nI r) (nI j) = _
          simp only [pX13_sum, w_tg (st_187 S), w_lt, pX13_isRow, i5, if_neg q, ms, w_bd, if_true, i2, if_neg e', s2, w_bd2, t2]
end SUN
