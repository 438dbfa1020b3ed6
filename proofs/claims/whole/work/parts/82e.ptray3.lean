/-! TRAYS: write, read -/
section TR3
variable {B : Nat} {E : EC} {op : Nat → Nat} {g : MT} {hc hr hc' hr' : CT}
/-- of a place of a TRAY: both refuse it alike, or it is there -/
theorem tray_trouble (S : Sh B g) (p1 : PtC B (hR hc)) (p2 : PtR B (hR hr)) (r3 : TraR B hc hr) (a b : Int32) :
    (∃ v, (v = 1 ∨ v = 3 ∨ v = 4) ∧ pX12_trayTrouble g hc B a b = some v ∧ pX13_placed g hr (B + 187) a b = some v)
    ∨ ∃ t k m s, t < 4 ∧ a = nI t ∧ b = nI k ∧ k < m ∧ m ≤ 60 ∧ s < 4 ∧ hI hc (B + 2 + 2 * t) 0 = 1 ∧ hI hc (B + 2 + 2 * t) 2 = nI m ∧ hI hr (B + 189) t = nI m ∧ hI hc (B + 2 + 2 * t) 1 = nI s ∧ hI hr (B + 188) t = nI s ∧ pX12_trayTrouble g hc B a b = some 0 ∧ pX13_placed g hr (B + 187) a b = some 0 := by
  have eT : ∀ x, pX12_isTray x = pX12_within x 0 (nI 3) := fun _ => rfl
  rcases within_0 a 3 (by decide) with ⟨e0, b0⟩ | ⟨e0, t, ht, rfl⟩
  · refine Or.inl ⟨1, Or.inl rfl, ?_, ?_⟩
    · simp only [pX12_trayTrouble, w_tg (st_0 S), eT, if_pos e0]
    · have : pX13_trayed g hr (B + 187) a = some 1 := by
        unfold pX13_trayed
        rw [w_tg (st_187 S)]
        rcases b0 with b0 | b0
        · rw [if_pos b0]; rfl
        · obtain ⟨c1, c2⟩ := gt_ge (by decide) b0
          have c3 : ¬ a < 4 := fun z => by
            rw [Int32.lt_iff_toInt_lt] at z
            rw [Int32.le_iff_toInt_le, nI_toInt (by decide)] at c2
            have : (4 : Int32).toInt = 4 := rfl
            omega
          rw [if_neg c1, if_neg c3]; rfl
      simp only [pX13_placed, w_tg (st_187 S), this, w_bd]
      rw [if_neg (by decide)]
  · have ht' : t < 4 := by omega
    obtain ⟨q1, q2, q3, q4, q5⟩ := trayA S p1 ht'
    obtain ⟨k1, k2, k3⟩ := r3 t ht'
    have e0' : ¬ pX12_within (nI t) 0 (nI 3) = 0 := by rw [e0]; decide
    have c1 : ¬ nI t < 0 := nI_pos (by omega)
    have c2 : nI t < 4 := nI_lt (b := 4) ht' (by decide)
    rcases k1 with k1 | k1
    · refine Or.inl ⟨3, Or.inr (Or.inl rfl), ?_, ?_⟩
      · simp only [pX12_trayTrouble, w_tg (st_0 S), eT, if_neg e0', w_lt, pc_0_0 p1, w_nn, w_tg (st_1 S), sl_1 S, w_ix (show t < 4 from ht') (show 4 < 2 ^ 31 by decide), nI_clamp (show t < 2 ^ 31 by omega), q1, w_tg q2, if_pos k1]
      · have : pX13_trayed g hr (B + 187) (nI t) = some 3 := by
          unfold pX13_trayed
          rw [w_tg (st_187 S), if_neg c1, if_pos c2, w_lt, pr_187_5 p2, w_nn, w_tg (st_189 S), sl_189 S, w_ix ht' (by decide), nI_clamp (by omega), k2 k1, if_neg (by decide)]
        simp only [pX13_placed, w_tg (st_187 S), this, w_bd]
        rw [if_neg (by decide)]
    · obtain ⟨m, s, y1, y2, y3, y4, y5, y6, y7⟩ := k3 k1
      have k0 : ¬ hI hc (B + 2 + 2 * t) 0 = 0 := by rw [k1]; decide
      have tr0 : pX13_trayed g hr (B + 187) (nI t) = some 0 := by
        unfold pX13_trayed
        rw [w_tg (st_187 S), if_neg c1, if_pos c2, w_lt, pr_187_5 p2, w_nn, w_tg (st_189 S), sl_189 S, w_ix ht' (by decide), nI_clamp (by omega), y4, if_pos (nI_pos' (by omega))]
      have cls : ∀ v, pX11_has g hc (B + 2 + 2 * t) b = some v → pX12_trayTrouble g hc B (nI t) b = some (if v = 0 then 4 else 0) := fun v hv => by
        simp only [pX12_trayTrouble, w_tg (st_0 S), eT, if_neg e0', w_lt, pc_0_0 p1, w_nn, w_tg (st_1 S), sl_1 S, w_ix (show t < 4 from ht') (show 4 < 2 ^ 31 by decide), nI_clamp (show t < 2 ^ 31 by omega), q1, w_tg q2, if_neg k0, hv, w_bd]
        split <;> rfl
      rcases pk_ix b (n := m) (by omega) with b0 | b0 | ⟨k, hk, rfl⟩
      · refine Or.inl ⟨4, Or.inr (Or.inr rfl), (cls 0 ?_).trans rfl, ?_⟩
        · unfold pX11_has; rw [w_tg q2, if_pos b0]
        · simp only [pX13_placed, w_tg (st_187 S), tr0, w_bd, pX13_placed_b28]
          rw [if_pos (by decide), if_pos b0]
      · have nb0 : ¬ b < 0 := fun z => by
          rw [Int32.lt_iff_toInt_lt] at z
          rw [Int32.le_iff_toInt_le, nI_toInt (by omega)] at b0
          have : (0 : Int32).toInt = 0 := rfl
          omega
        have nb1 : ¬ b < nI m := fun z => by
          rw [Int32.lt_iff_toInt_lt] at z
          rw [Int32.le_iff_toInt_le] at b0
          omega
        refine Or.inl ⟨4, Or.inr (Or.inr rfl), (cls 0 ?_).trans rfl, ?_⟩
        · unfold pX11_has; rw [w_tg q2, if_neg nb0, y3, if_pos b0]
        · simp only [pX13_placed, w_tg (st_187 S), tr0, w_bd, pX13_placed_b28]
          rw [if_pos (by decide), if_neg nb0, w_lt, pr_187_5 p2, w_nn, w_tg (st_189 S), sl_189 S, w_ix ht' (by decide), nI_clamp (by omega), y4, if_neg nb1]
      · refine Or.inr ⟨t, k, m, s, ht', rfl, rfl, hk, y1, y2, k1, y3, y4, y5, y6, (cls 1 ?_).trans rfl, ?_⟩
        · unfold pX11_has
          rw [w_tg q2, if_neg (nI_pos (by omega)), y3, if_neg (nI_ge hk (by omega)), w_lt, q3, w_nn, w_tg q4, q5, if_neg (show ¬ Int32.ofNat 60 ≤ nI k from nI_ge (b := 60) (by omega) (by decide))]
        · simp only [pX13_placed, w_tg (st_187 S), tr0, w_bd, pX13_placed_b28]
          rw [if_pos (by decide), if_neg (nI_pos (by omega)), w_lt, pr_187_5 p2, w_nn, w_tg (st_189 S), sl_189 S, w_ix ht' (by decide), nI_clamp (by omega), y4, if_pos (nI_lt hk (by omega))]
theorem TraR.thr (r3 : TraR B hc hr) (v t : Int32) : TraR B (sI hc B 19 v) (sI (sI hr (B + 187) 1 t) (B + 187) 0 v) := by
  refine r3.keep (W := [0]) (W' := [187]) ((OfC.rf hc).sI (w := 0) (by simp)) (((OfR.rf hr).sI (w := 187) (by simp)).sI (w := 187) (by simp)) rfl rfl
theorem tray_v {v : Int32} (h : v = 1 ∨ v = 3 ∨ v = 4) : ¬ v = 0 ∧ ¬ v ≤ 0 := by rcases h with rfl | rfl | rfl <;> decide
theorem C_read : K_read B E op := by
  intro a b g hc hr H
  have S := H.1
  have p1 := H.2.1
  have p2 := H.2.2.1
  have p2' : PtR B (hR (sI hr (B + 187) 1 0)) := p2
  have r3 : TraR B hc (sI hr (B + 187) 1 0) := (H.thr 0).2.2.2.2.2.1
  rcases tray_trouble S p1 p2' r3 a b with ⟨v, hv, e1, e2⟩ | ⟨t, k, m, s, ht, rfl, rfl, hk, hm, hs, f1, f2, f3, f4, f5, e1, e2⟩
  · obtain ⟨n1, n2⟩ := tray_v hv
    refine ⟨-1, _, _, ?_, ?_, H.stat v 0⟩
    · simp only [pX12_read, w_tg (st_0 S), e1, w_bd, if_neg n1, k_refuse S, w_bd2]
      rfl
    · simp only [pX13_read, w_tg (st_187 S), w_lt, e2, w_bd, hI_s, if_neg n2]
  · obtain ⟨q1, q2, q3, q4, q5⟩ := trayA S p1 ht
    refine ⟨hL hc (B + 2 + 2 * t + 1) k, _, _, ?_, ?_, H.stat 0 0⟩
    · simp only [pX12_read, w_tg (st_0 S), e1, w_bd, if_true, w_lt]
      rw [show hR (sI hc B 19 0) B 0 = some (B + 1) from pc_0_0 p1, w_nn, w_tg (st_1 S), sl_1 S, w_ix ht (by decide), nI_clamp (show t < 2 ^ 31 by omega), show hR (sI hc B 19 0) (B + 1) t = some (B + 2 + 2 * t) from q1, w_nn, w_tg q2]
      have g0 : hI (sI hc B 19 0) (B + 2 + 2 * t) = hI hc (B + 2 + 2 * t) := by rw [hI_sI, if_neg (by omega)]
      unfold pX11_fetch pX11_has
      rw [w_tg q2, w_tg q2, g0, if_neg (nI_pos (by omega)), f2, if_neg (nI_ge hk (by omega)), w_lt, show hR (sI hc B 19 0) (B + 2 + 2 * t) 3 = some (B + 2 + 2 * t + 1) from q3, w_nn, w_tg q4, q5, if_neg (show ¬ Int32.ofNat 60 ≤ nI k from nI_ge (b := 60) (by omega) (by decide)), w_bd, if_neg (by decide), w_lt, w_nn, w_tg q4, q5, w_ix (show k < 60 by omega) (by decide), nI_clamp (by omega), w_bd]
      rfl
    · have ei : (60 * nI t + nI k : Int32) = nI (60 * t + k) := by rw [show (60 : Int32) = nI 60 from rfl, pk_mul, nI_add]
      simp only [pX13_read, w_tg (st_187 S), w_lt, e2, w_bd, hI_s]
      rw [if_pos (by decide), show hR (sI (sI hr (B + 187) 1 0) (B + 187) 0 0) (B + 187) 6 = some (B + 190) from pr_187_6 p2, w_nn, w_tg (st_190 S), sl_190 S, ei, w_ix (by omega) (by decide), nI_clamp (by omega)]
      obtain ⟨m', s', y1, y2, y3, y4, y5, y6, y7⟩ := (r3 t ht).2.2 f1
      have em : m' = m := by
        have := y3.symm.trans f2
        exact (nI_eq (by omega) (by omega)).mp this
      have := y7 k (by omega)
      rw [show B + 2 + 2 * t + 1 = B + 3 + 2 * t by omega, this]
      rfl
end TR3
