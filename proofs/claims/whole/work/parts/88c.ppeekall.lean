/-! peekAll -/
section PEA
variable {B : Nat} {E : EC} {op : Nat → Nat} {g : MT} {hc hr hc' hr' : CT}
theorem tray_sort (H : Rel B op g (sI hc B 19 0) hr) {t m s : Nat} (ht : t < 4) (f1 : hI hc (B + 2 + 2 * t) 0 = 1) (f2 : hI hc (B + 2 + 2 * t) 2 = nI m) (f3 : hI hc (B + 2 + 2 * t) 1 = nI s) : hI hr (B + 188) t = nI s ∧ hI hr (B + 189) t = nI m := by
  have e : hI (sI hc B 19 0) (B + 2 + 2 * t) = hI hc (B + 2 + 2 * t) := by rw [hI_sI, if_neg (by omega)]
  obtain ⟨k1, k2, k3⟩ := H.2.2.2.2.2.1 t ht
  rw [e] at k3
  obtain ⟨m', s', y1, y2, y3, y4, y5, y6, y7⟩ := k3 f1
  exact ⟨by rw [y6, ← y5]; exact f3, by rw [y4, ← y3]; exact f2⟩
/-- a long kept in a TRAY, in both -/
theorem tray_keep (H : Rel B op g hc hr) {t m s j : Nat} (ht : t < 4) (f1 : hI hc (B + 2 + 2 * t) 0 = 1) (f2 : hI hc (B + 2 + 2 * t) 2 = nI m) (f3 : hI hc (B + 2 + 2 * t) 1 = nI s) (hj : j < m) (hm : m ≤ 60) (v : Int64) :
    Rel B op g (sI (sL hc (B + 2 + 2 * t + 1) j v) B 19 0) (sL (sI (sI hr (B + 187) 1 0) (B + 187) 0 0) (B + 190) (60 * t + j) v) := by
  have z8 : hI (sI (sI hr (B + 187) 1 0) (B + 187) 0 0) (B + 188) = hI hr (B + 188) := by rw [hI_sI, if_neg (by omega), hI_sI, if_neg (by omega)]
  have z9 : hI (sI (sI hr (B + 187) 1 0) (B + 187) 0 0) (B + 189) = hI hr (B + 189) := by rw [hI_sI, if_neg (by omega), hI_sI, if_neg (by omega)]
  refine H.tra0 ht (fun x x1 x2 => (Eqa.rf hc x).sL (by omega)) (fun x x1 x2 x3 => (Eqa.rf _ x).sL x3) rfl rfl ?_
  intro t' ht'
  obtain ⟨k1, k2, k3⟩ := H.2.2.2.2.2.1 t' ht'
  rw [show hI (sL hc (B + 2 + 2 * t + 1) j v) = hI hc from rfl, show hI (sL (sI (sI hr (B + 187) 1 0) (B + 187) 0 0) (B + 190) (60 * t + j) v) = hI (sI (sI hr (B + 187) 1 0) (B + 187) 0 0) from rfl, z8, z9]
  refine ⟨k1, k2, fun z => ?_⟩
  obtain ⟨m', s', y1, y2, y3, y4, y5, y6, y7⟩ := k3 z
  refine ⟨m', s', y1, y2, y3, y4, y5, y6, fun i hi => ?_⟩
  by_cases e : t' = t
  · subst e
    rw [hL_sL, if_pos (by omega), hL_sL, if_pos rfl]
    by_cases ek : i = j
    · rw [ek, ud_s, ud_s]
    · rw [ud_n ek, ud_n (by omega), show B + 2 + 2 * t' + 1 = B + 3 + 2 * t' by omega]; exact y7 i hi
  · rw [hL_sL, if_neg (by omega), hL_sL, if_pos rfl, ud_n (by omega)]
    exact y7 i hi
theorem pea_loop {t n m w u : Nat} {a : Int32} (ht : t < 4) (hn : n ≤ m) (hm : m ≤ 60) (hu : u < 4) (hw : 0 < n → a = nI w ∧ w + n ≤ 64) : ∀ (d j f f' : Nat) (s sr : CT), j + d = n → d < f → d < f' → Rel B op g (sI s B 19 0) sr → hI s (B + 2 + 2 * t) 0 = 1 → hI s (B + 2 + 2 * t) 2 = nI m → hI s (B + 2 + 2 * t) 1 = nI u →
    ∃ s' sr', pX12_peekAll_l24 g B a (nI t) (nI n) f (nI j) s = some (nI n, s') ∧ pX13_peekAll_l28 g (B + 187) a (nI t) (nI n) f' (nI j) sr = some (nI n, sr') ∧ Rel B op g s' sr' := by
  intro d
  induction d with
  | zero =>
    intro j f f' s sr hj hf hf' H f1 f2 f3
    obtain ⟨f, rfl⟩ : ∃ k, f = k + 1 := ⟨f - 1, by omega⟩
    obtain ⟨f', rfl⟩ : ∃ k, f' = k + 1 := ⟨f' - 1, by omega⟩
    obtain rfl : j = n := by omega
    refine ⟨sI s B 19 0, sr, ?_, ?_, H⟩
    · rw [pX12_peekAll_l24, pX12_peekAll_b24, if_pos (nI_le (Nat.le_refl _) (by omega)), k_answer H.1, w_bd2]
    · rw [pX13_peekAll_l28, pX13_peekAll_b28, if_pos (nI_le (Nat.le_refl _) (by omega))]
  | succ d ih =>
    intro j f f' s sr hj hf hf' H f1 f2 f3
    obtain ⟨f, rfl⟩ : ∃ k, f = k + 1 := ⟨f - 1, by omega⟩
    obtain ⟨f', rfl⟩ : ∃ k, f' = k + 1 := ⟨f' - 1, by omega⟩
    have S := H.1
    have p1 : PtC B (hR s) := H.2.1
    have p2 := H.2.2.1
    obtain ⟨rfl, hw2⟩ := hw (by omega)
    obtain ⟨q1, q2, q3, q4, q5⟩ := trayA S p1 ht
    have hm0 : MacR B op g (sI s B 19 0) 13 sr 0 := H.2.2.2.2.2.2.2.1
    have N : NumR (hD s (B + 38) (w + j)) (hI s (B + 39) (w + j)) (hD sr (B + 193) (100 + (w + j))) := by
      have := hm0.1.2.2.2.2.2.2.2.2 (w + j) (by omega)
      rw [show 164 * 0 + 100 + (w + j) = 100 + (w + j) by omega, hI_sI, if_neg (by omega)] at this
      exact this
    have eT : ∀ v o, hI (numW s (B + 185) v o) (B + 2 + 2 * t) = hI s (B + 2 + 2 * t) := fun v o => numW_I _ _ _ _ (by omega)
    have f1s := row_fetch (h := s) (p := B + 185) (word_row S p1) (st_185 S) (show w + j < 64 by omega) (by decide) N.1
    have al := n_asLong (h := numW s (B + 185) (hD s (B + 38) (w + j)) (hI s (B + 39) (w + j))) (st_185 S) (x := hD sr (B + 193) (100 + (w + j))) (by rw [numW_d, numW_i]; exact N)
    generalize hv : hD s (B + 38) (w + j) = v at *
    generalize ho : hI s (B + 39) (w + j) = o at *
    generalize hx : hD sr (B + 193) (100 + (w + j)) = x at *
    have eh : sI (sL (numW (sI s B 19 0) (B + 185) v o) (B + 2 + 2 * t + 1) j (pX13_trims (nI u) (FP.d2l x))) B 19 0 = sI (sL (numW s (B + 185) v o) (B + 2 + 2 * t + 1) j (pX13_trims (nI u) (FP.d2l x))) B 19 0 := by
      unfold numW
      show sI (sI (sI (sD (sL s (B + 2 + 2 * t + 1) j (pX13_trims (nI u) (FP.d2l x))) (B + 185) 0 v) B 19 0) (B + 185) 1 o) B 19 0 = sI (sI (sD (sL s (B + 2 + 2 * t + 1) j (pX13_trims (nI u) (FP.d2l x))) (B + 185) 0 v) (B + 185) 1 o) B 19 0
      rw [sI_comm _ (show B ≠ B + 185 by omega), sI_sI]
    have e9 : ∀ k, hI (numW (sI s B 19 0) (B + 185) v o) (B + 2 + 2 * t) k = hI s (B + 2 + 2 * t) k := fun k => by rw [numW_I _ _ _ _ (by omega), hI_sI, if_neg (by omega)]
    have HP := tray_keep (H.scrN (n := 185) (by omega) (v := v) N.1) ht (by rw [e9]; exact f1) (by rw [e9]; exact f2) (by rw [e9]; exact f3) (show j < m by omega) hm (pX13_trims (nI u) (FP.d2l x))
    rw [eh] at HP
    have eT2 : ∀ k, hI (sL (numW s (B + 185) v o) (B + 2 + 2 * t + 1) j (pX13_trims (nI u) (FP.d2l x))) (B + 2 + 2 * t) k = hI s (B + 2 + 2 * t) k := fun k => by rw [hI_sL, eT]
    obtain ⟨s', sr', r1, r2, r3⟩ := ih (j + 1) f f' _ _ (by omega) (by omega) (by omega) HP (by rw [eT2]; exact f1) (by rw [eT2]; exact f2) (by rw [eT2]; exact f3)
    obtain ⟨g1, g2⟩ := tray_sort H ht f1 f2 f3
    have ew : nI w + nI j = nI (w + j) := nI_add w j
    have e100 : (100 + nI w + nI j : Int32) = nI (100 + (w + j)) := by rw [show (100 + nI w : Int32) = nI (100 + w) from nI_add 100 w, nI_add, Nat.add_assoc]
    have ei : (60 * nI t + nI j : Int32) = nI (60 * t + j) := by rw [show (60 : Int32) = nI 60 from rfl, pk_mul, nI_add]
    have kt : pX11_keep g (numW s (B + 185) v o) (B + 2 + 2 * t) (nI j) (FP.d2l x) = some (sL (numW s (B + 185) v o) (B + 2 + 2 * t + 1) j (pX13_trims (nI u) (FP.d2l x))) := by
      have q3' : hR (numW s (B + 185) v o) (B + 2 + 2 * t) 3 = some (B + 2 + 2 * t + 1) := q3
      unfold pX11_keep pX11_has
      rw [w_tg q2, w_tg q2, if_neg (nI_pos (by omega)), eT, f2, if_neg (nI_ge (show j < m by omega) (by omega)), w_lt, q3', w_nn, w_tg q4, q5, if_neg (show ¬ Int32.ofNat 60 ≤ nI j from nI_ge (b := 60) (by omega) (by decide)), w_bd, if_neg (by decide), w_lt, cut_trims q2, eT, f3, w_bd, w_nn, w_tg q4, q5, w_ix (show j < 60 by omega) (by decide), nI_clamp (by omega), w_lt]
    refine ⟨s', sr', ?_, ?_, r3⟩
    · rw [pX12_peekAll_l24, pX12_peekAll_b24, if_neg (nI_ge (show j < n by omega) (by omega)), w_lt, pc_0_4 p1, w_nn, w_tg (st_13 S), w_lt, w_lt, pc_13_3 p1, pc_0_17 p1, w_nn, w_tg (st_37 S), w_nn, ew, f1s, w_bd]
      rw [w_lt, show hR (numW s (B + 185) v o) B 0 = some (B + 1) from pc_0_0 p1, w_nn, w_tg (st_1 S), sl_1 S, w_ix ht (by decide), w_lt, nI_clamp (by omega), w_lt, show hR (numW s (B + 185) v o) (B + 1) t = some (B + 2 + 2 * t) from q1, show hR (numW s (B + 185) v o) B 17 = some (B + 185) from pc_0_17 p1, w_nn, w_tg (st_185 S), al, w_bd, w_nn, w_tg q2, kt, w_bd, w_lt, nI_1]
      exact r1
    · have pl : pX13_placed g (sI sr (B + 187) 1 0) (B + 187) (nI t) (nI j) = some 0 := by
        have g2' : hI (sI sr (B + 187) 1 0) (B + 189) t = nI m := by rw [hI_sI, if_neg (by omega)]; exact g2
        have g5 : hR (sI sr (B + 187) 1 0) (B + 187) 5 = some (B + 189) := pr_187_5 p2
        have tr0 : pX13_trayed g (sI sr (B + 187) 1 0) (B + 187) (nI t) = some 0 := by
          unfold pX13_trayed
          rw [w_tg (st_187 S), if_neg (nI_pos (by omega)), if_pos (show nI t < 4 from nI_lt (b := 4) ht (by decide)), w_lt, g5, w_nn, w_tg (st_189 S), sl_189 S, w_ix ht (by decide), nI_clamp (by omega), g2', if_pos (nI_pos' (by omega))]
        unfold pX13_placed
        rw [w_tg (st_187 S), tr0, w_bd, if_pos (by decide)]
        unfold pX13_placed_b28
        rw [if_neg (nI_pos (by omega)), w_lt, g5, w_nn, w_tg (st_189 S), sl_189 S, w_ix ht (by decide), nI_clamp (by omega), g2', if_pos (nI_lt (show j < m by omega) (by omega))]
      have wr : pX13_write g sr (B + 187) (nI t) (nI j) (FP.d2l x) = some (1, sL (sI (sI sr (B + 187) 1 0) (B + 187) 0 0) (B + 190) (60 * t + j) (pX13_trims (nI u) (FP.d2l x))) := by
        have g1' : hI (sI (sI sr (B + 187) 1 0) (B + 187) 0 0) (B + 188) t = nI u := by rw [hI_sI, if_neg (by omega), hI_sI, if_neg (by omega)]; exact g1
        simp only [pX13_write, w_tg (st_187 S), w_lt, pl, w_bd, hI_s]
        rw [if_pos (by decide), show hR (sI (sI sr (B + 187) 1 0) (B + 187) 0 0) (B + 187) 4 = some (B + 188) from pr_187_4 p2, w_nn, w_tg (st_188 S), sl_188 S, w_ix ht (by decide), show hR (sI (sI sr (B + 187) 1 0) (B + 187) 0 0) (B + 187) 6 = some (B + 190) from pr_187_6 p2, w_nn, w_tg (st_190 S), sl_190 S, ei, w_ix (show 60 * t + j < 240 by omega) (by decide), nI_clamp (by omega), nI_clamp (by omega), g1']
      rw [pX13_peekAll_l28, pX13_peekAll_b28, if_neg (nI_ge (show j < n by omega) (by omega)), w_lt, pr_187_20 p2, w_nn, w_tg (st_193 S), sl_193 S, e100, w_ix (show 100 + (w + j) < 984 by omega) (by decide), nI_clamp (by omega), hx, wr, w_bd2, w_lt, nI_1]
      exact r2
theorem C_peekAll : K_peekAll B E op := by
  intro a b c g hc hr H
  have S := H.1
  have p1 := H.2.1
  have p2 := H.2.2.1
  have p2' : PtR B (hR (sI hr (B + 187) 1 0)) := p2
  have r3 : TraR B hc (sI hr (B + 187) 1 0) := (H.thr 0).2.2.2.2.2.1
  rcases whole_trouble S p1 p2' r3 a b c with ⟨v, hv, e1, e2⟩ | ⟨t, n, m, s, ht, rfl, hn, hm, hs, rfl, hw, f1, f2, f3, f4, f5, e1, e2⟩
  · obtain ⟨n1, n2⟩ := whole_v hv
    refine ⟨-1, _, _, ?_, ?_, H.stat v 0⟩
    · simp only [pX12_peekAll, w_tg (st_0 S), e1, w_bd, if_neg n1, k_refuse S, w_bd2]
    · simp only [pX13_peekAll, w_tg (st_187 S), w_lt, e2, w_bd, hI_s, if_neg n2]
  · obtain ⟨w, hw'⟩ : ∃ w, 0 < n → a = nI w ∧ w + n ≤ 64 := by
      by_cases c : 0 < n
      · obtain ⟨w, q⟩ := hw c; exact ⟨w, fun _ => q⟩
      · exact ⟨0, fun z => absurd z c⟩
    obtain ⟨s', sr', r1, r2, r3⟩ := pea_loop ht hn hm hs hw' n 0 FUEL FUEL hc (sI (sI hr (B + 187) 1 0) (B + 187) 0 0) (by omega) (by unfold FUEL; omega) (by unfold FUEL; omega) (H.stat 0 0) f1 f2 f4
    refine ⟨nI n, s', sr', ?_, ?_, r3⟩
    · simp only [pX12_peekAll, w_tg (st_0 S), e1, w_bd, if_true]
      exact r1
    · simp only [pX13_peekAll, w_tg (st_187 S), w_lt, e2, w_bd, hI_s]
      rw [if_pos (by decide)]
      exact r2
end PEA
