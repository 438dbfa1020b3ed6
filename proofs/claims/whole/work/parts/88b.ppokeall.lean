/-! pokeAll -/
section PKA
variable {B : Nat} {E : EC} {op : Nat → Nat} {g : MT} {hc hr hc' hr' : CT}
theorem tray_in (H : Rel B op g (sI hc B 19 0) hr) {t m : Nat} (ht : t < 4) (f1 : hI hc (B + 2 + 2 * t) 0 = 1) (f2 : hI hc (B + 2 + 2 * t) 2 = nI m) (hm : m ≤ 60) : ∀ k, k < m → hL hc (B + 3 + 2 * t) k = hL hr (B + 190) (60 * t + k) := by
  have e : hI (sI hc B 19 0) (B + 2 + 2 * t) = hI hc (B + 2 + 2 * t) := by rw [hI_sI, if_neg (by omega)]
  obtain ⟨k1, k2, k3⟩ := H.2.2.2.2.2.1 t ht
  rw [e] at k3
  obtain ⟨m', s, y1, y2, y3, y4, y5, y6, y7⟩ := k3 f1
  have : m' = m := by
    have h := congrArg Int32.toInt (y3.symm.trans f2)
    rw [nI_toInt (by omega), nI_toInt (by omega)] at h
    omega
  subst this
  exact y7
theorem pka_loop {t n m w : Nat} {a : Int32} (ht : t < 4) (hn : n ≤ m) (hm : m ≤ 60) (hw : 0 < n → a = nI w ∧ w + n ≤ 64) : ∀ (d j f f' : Nat) (s sr : CT), j + d = n → d < f → d < f' → Rel B op g (sI s B 19 0) sr → hI s (B + 2 + 2 * t) 0 = 1 → hI s (B + 2 + 2 * t) 2 = nI m →
    ∃ s' sr', pX12_pokeAll_l24 g B a (nI t) (nI n) f (nI j) s = some (nI n, s') ∧ pX13_pokeAll_l28 g (B + 187) a (nI t) (nI n) f' (nI j) sr = some (nI n, sr') ∧ Rel B op g s' sr' := by
  intro d
  induction d with
  | zero =>
    intro j f f' s sr hj hf hf' H f1 f2
    obtain ⟨f, rfl⟩ : ∃ k, f = k + 1 := ⟨f - 1, by omega⟩
    obtain ⟨f', rfl⟩ : ∃ k, f' = k + 1 := ⟨f' - 1, by omega⟩
    obtain rfl : j = n := by omega
    refine ⟨sI s B 19 0, sr, ?_, ?_, H⟩
    · rw [pX12_pokeAll_l24, pX12_pokeAll_b24, if_pos (nI_le (Nat.le_refl _) (by omega)), k_answer H.1, w_bd2]
    · rw [pX13_pokeAll_l28, pX13_pokeAll_b28, if_pos (nI_le (Nat.le_refl _) (by omega))]
  | succ d ih =>
    intro j f f' s sr hj hf hf' H f1 f2
    obtain ⟨f, rfl⟩ : ∃ k, f = k + 1 := ⟨f - 1, by omega⟩
    obtain ⟨f', rfl⟩ : ∃ k, f' = k + 1 := ⟨f' - 1, by omega⟩
    have S := H.1
    have p1 : PtC B (hR s) := H.2.1
    have p2 := H.2.2.1
    obtain ⟨rfl, hw2⟩ := hw (by omega)
    obtain ⟨q1, q2, q3, q4, q5⟩ := trayA S p1 ht
    have hv := tray_in H ht f1 f2 hm j (by omega)
    have N := NumR_ok (fl2d_nn (hL s (B + 3 + 2 * t) j))
    have HP := H.putT (t := 185) (q := 37) (n := 64) (b := 100) (w := w + j) (Or.inr (Or.inr (Or.inl rfl))) (Or.inl ⟨rfl, rfl, rfl⟩) (by omega) N
    generalize hx : fl2d (hL s (B + 3 + 2 * t) j) = x at *
    have eh : sI (sD (numW (sI s B 19 0) (B + 185) x 0) (B + 37 + 1) (w + j) x) (B + 37 + 2) (w + j) 0 = sI (sI (sD (numW s (B + 185) x 0) (B + 37 + 1) (w + j) x) (B + 37 + 2) (w + j) 0) B 19 0 := by
      unfold numW
      show sI (sI (sI (sD (sD s (B + 185) 0 x) (B + 37 + 1) (w + j) x) B 19 0) (B + 185) 1 0) (B + 37 + 2) (w + j) 0 = sI (sI (sI (sD (sD s (B + 185) 0 x) (B + 37 + 1) (w + j) x) (B + 185) 1 0) (B + 37 + 2) (w + j) 0) B 19 0
      rw [sI_comm _ (show B ≠ B + 185 by omega), sI_comm _ (show B ≠ B + 37 + 2 by omega)]
    rw [eh] at HP
    have eT : ∀ k, hI (sI (sD (numW s (B + 185) x 0) (B + 37 + 1) (w + j) x) (B + 37 + 2) (w + j) 0) (B + 2 + 2 * t) k = hI s (B + 2 + 2 * t) k := fun k => by
      rw [hI_sI, if_neg (by omega), hI_sD, numW_I _ _ _ _ (by omega)]
    obtain ⟨s', sr', r1, r2, r3⟩ := ih (j + 1) f f' _ _ (by omega) (by omega) (by omega) HP (by rw [eT]; exact f1) (by rw [eT]; exact f2)
    have ew : nI w + nI j = nI (w + j) := nI_add w j
    have e100 : (100 + nI w + nI j : Int32) = nI (100 + (w + j)) := by rw [show (100 + nI w : Int32) = nI (100 + w) from nI_add 100 w, nI_add, Nat.add_assoc]
    have kp := row_keep (h := numW s (B + 185) x 0) (p := B + 185) (word_row S p1) (st_185 S) (show w + j < 64 by omega) (by decide) (by rw [numW_i]; exact is01_0)
    rw [numW_d, numW_i] at kp
    have ft : pX11_fetch g s (B + 2 + 2 * t) (nI j) = some (hL s (B + 3 + 2 * t) j) := by
      unfold pX11_fetch pX11_has
      rw [w_tg q2, w_tg q2, if_neg (nI_pos (by omega)), f2, if_neg (nI_ge (show j < m by omega) (by omega)), w_lt, q3, w_nn, w_tg q4, q5, if_neg (show ¬ Int32.ofNat 60 ≤ nI j from nI_ge (b := 60) (by omega) (by decide)), w_bd, if_neg (by decide), w_lt, w_nn, w_tg q4, q5, w_ix (show j < 60 by omega) (by decide), nI_clamp (by omega), show B + 2 + 2 * t + 1 = B + 3 + 2 * t by omega]
    refine ⟨s', sr', ?_, ?_, r3⟩
    · rw [pX12_pokeAll_l24, pX12_pokeAll_b24, if_neg (nI_ge (show j < n by omega) (by omega)), w_lt, w_lt, pc_0_17 p1, pc_0_0 p1, w_nn, w_tg (st_1 S), sl_1 S, w_ix ht (by decide), w_lt, nI_clamp (by omega), q1, w_nn, w_tg q2, ft, w_bd, hx, w_nn, w_tg (st_185 S), n_set (st_185 S), w_bd, w_lt]
      rw [show hR (numW s (B + 185) x 0) B 4 = some (B + 13) from pc_0_4 p1, w_nn, w_tg (st_13 S), w_lt, w_lt, show hR (numW s (B + 185) x 0) (B + 13) 3 = some (B + 37) from pc_13_3 p1, show hR (numW s (B + 185) x 0) B 17 = some (B + 185) from pc_0_17 p1, w_nn, w_tg (st_37 S), w_nn, ew, kp, w_bd, w_lt, nI_1]
      exact r1
    · have nof : pX13_numberOf g sr (B + 187) (nI t) (nI j) = some (hL s (B + 3 + 2 * t) j) := by
        have ei : (60 * nI t + nI j : Int32) = nI (60 * t + j) := by rw [show (60 : Int32) = nI 60 from rfl, pk_mul, nI_add]
        unfold pX13_numberOf
        rw [w_tg (st_187 S), w_lt, pr_187_6 p2, w_nn, w_tg (st_190 S), sl_190 S, ei, w_ix (show 60 * t + j < 240 by omega) (by decide), nI_clamp (by omega), hv]
      rw [pX13_pokeAll_l28, pX13_pokeAll_b28, if_neg (nI_ge (show j < n by omega) (by omega)), w_lt, pr_187_20 p2, nof, w_bd, w_nn, w_tg (st_193 S), sl_193 S, e100, w_ix (show 100 + (w + j) < 984 by omega) (by decide), w_lt, nI_clamp (by omega), hx, w_lt, nI_1]
      exact r2
theorem C_pokeAll : K_pokeAll B E op := by
  intro a b c g hc hr H
  have S := H.1
  have p1 := H.2.1
  have p2 := H.2.2.1
  have p2' : PtR B (hR (sI hr (B + 187) 1 0)) := p2
  have r3 : TraR B hc (sI hr (B + 187) 1 0) := (H.thr 0).2.2.2.2.2.1
  rcases whole_trouble S p1 p2' r3 a b c with ⟨v, hv, e1, e2⟩ | ⟨t, n, m, s, ht, rfl, hn, hm, hs, rfl, hw, f1, f2, f3, f4, f5, e1, e2⟩
  · obtain ⟨n1, n2⟩ := whole_v hv
    refine ⟨-1, _, _, ?_, ?_, H.stat v 0⟩
    · simp only [pX12_pokeAll, w_tg (st_0 S), e1, w_bd, if_neg n1, k_refuse S, w_bd2]
    · simp only [pX13_pokeAll, w_tg (st_187 S), w_lt, e2, w_bd, hI_s, if_neg n2]
  · obtain ⟨w, hw'⟩ : ∃ w, 0 < n → a = nI w ∧ w + n ≤ 64 := by
      by_cases c : 0 < n
      · obtain ⟨w, q⟩ := hw c; exact ⟨w, fun _ => q⟩
      · exact ⟨0, fun z => absurd z c⟩
    obtain ⟨s', sr', r1, r2, r3⟩ := pka_loop ht hn hm hw' n 0 FUEL FUEL hc (sI (sI hr (B + 187) 1 0) (B + 187) 0 0) (by omega) (by unfold FUEL; omega) (by unfold FUEL; omega) (H.stat 0 0) f1 f2
    refine ⟨nI n, s', sr', ?_, ?_, r3⟩
    · simp only [pX12_pokeAll, w_tg (st_0 S), e1, w_bd, if_true]
      exact r1
    · simp only [pX13_pokeAll, w_tg (st_187 S), w_lt, e2, w_bd, hI_s]
      rw [if_pos (by decide)]
      exact r2
end PKA
