/-! folding by halves: a pass, all passes, the whole fold -/
section FLE
variable {B : Nat} {E : EC} {op : Nat → Nat} {g : MT}
theorem fold_pass (S : Sh B g) {t : Nat} (ht : t = 136 ∨ t = 183 ∨ t = 184 ∨ t = 185 ∨ t = 186) {n l5 l6 : Nat} {pr cc cr : Int32} {q : Nat} (hc : (cc = 0 ∧ ¬ cr = 0) ∨ (¬ cc = 0 ∧ cr = 0)) (hn : n ≤ 16) (hl : l5 ≤ n) (h6 : l6 = (l5 + 1) / 2)
    {k11 : Int32 → CT → Option CT} {k42 : Int32 → CT → Option (UInt64 × CT)} : ∀ (d j f f' : Nat) (h sr : CT), j + l6 + d = l5 → d < f → d < f' → PtC B (hR h) → PtR B (hR sr) → is01 (hI h (B + 137) 1) → FW B n h sr →
    ∃ h' sr', pX9_halve_l28 g (B + 132) q (nI n) cc (B + t) k11 f (nI l5) (nI l6) (nI j) h = k11 (nI l6) h' ∧ pX13_folded_l59 g (B + 187) pr (nI n) cr k42 f' (nI l5) (nI l6) (nI j) sr = k42 (nI l6) sr' ∧ FW B n h' sr' ∧ FrF B t h h' ∧ FrG B sr sr' ∧ is01 (hI h' (B + 137) 1) := by
  intro d
  induction d with
  | zero =>
    intro j f f' h sr hj hf hf' p p2 i1 F
    obtain ⟨f, rfl⟩ : ∃ k, f = k + 1 := ⟨f - 1, by omega⟩
    obtain ⟨f', rfl⟩ : ∃ k, f' = k + 1 := ⟨f' - 1, by omega⟩
    have le : (nI l5 - nI l6) ≤ nI j := by
      rw [pk_sub (show l6 ≤ l5 by omega)]
      exact nI_le (by omega) (by omega)
    refine ⟨h, sI sr (B + 187) 44 (hI sr (B + 187) 44 + 1), ?_, ?_, F, FrF.rf B t h, FrG.s44 sr, i1⟩
    · rw [pX9_halve_l28, pX9_halve_b28, if_pos le, w_lt, nI_half _ (by omega), ← h6]
    · rw [pX13_folded_l59, pX13_folded_b59, if_pos le, w_lt]
  | succ d ih =>
    intro j f f' h sr hj hf hf' p p2 i1 F
    obtain ⟨f, rfl⟩ : ∃ k, f = k + 1 := ⟨f - 1, by omega⟩
    obtain ⟨f', rfl⟩ : ∃ k, f' = k + 1 := ⟨f' - 1, by omega⟩
    obtain ⟨h1, sr1, a1, a2, a3, a4, a5, a6⟩ := fold_step (pr := pr) (q := q) (k11 := k11) (k42 := k42) (k28 := pX9_halve_l28 g (B + 132) q (nI n) cc (B + t) k11 f) (k59 := pX13_folded_l59 g (B + 187) pr (nI n) cr k42 f') S p p2 ht hc hn hl (show j + l6 < l5 by omega) F
    obtain ⟨h2, sr2, b1, b2, b3, b4, b5, b6⟩ := ih (j + 1) f f' h1 sr1 (by omega) (by omega) (by omega) (by rw [a4.1]; exact p) (by rw [a5.1]; exact p2) a6 a3
    refine ⟨h2, sr2, ?_, ?_, b3, a4.tr b4, a5.tr b5, b6⟩
    · rw [pX9_halve_l28, a1, b1]
    · rw [pX13_folded_l59, a2, b2]
theorem fold_all (S : Sh B g) {t : Nat} (ht : t = 136 ∨ t = 183 ∨ t = 184 ∨ t = 185 ∨ t = 186) {n : Nat} {pr cc cr : Int32} {q : Nat} (hc : (cc = 0 ∧ ¬ cr = 0) ∨ (¬ cc = 0 ∧ cr = 0)) (hn : n ≤ 16) : ∀ (d l5 f f' : Nat) (h sr : CT), l5 ≤ d + 1 → l5 ≤ n → (0 < n → 0 < l5) → d < f → d < f' → PtC B (hR h) → PtR B (hR sr) → is01 (hI h (B + 137) 1) → FW B n h sr →
    ∃ h' sr' x, pX9_halve_l11 g (B + 132) q (nI n) cc (B + t) f (nI l5) h = some h' ∧ pX13_folded_l42 g (B + 187) pr (nI n) cr f' (nI l5) sr = some (x, sr') ∧ NumR (hD h' (B + t) 0) (hI h' (B + t) 1) x ∧ FrF B t h h' ∧ FrG B sr sr' ∧ is01 (hI h' (B + 137) 1) := by
  have Tt : gT g (B + t) = 4 := by
    rcases ht with rfl | rfl | rfl | rfl | rfl
    · exact st_136 S
    · exact st_183 S
    · exact st_184 S
    · exact st_185 S
    · exact st_186 S
  intro d
  induction d with
  | zero =>
    intro l5 f f' h sr hl hl2 hl3 hf hf' p p2 i1 F
    obtain ⟨f, rfl⟩ : ∃ k, f = k + 1 := ⟨f - 1, by omega⟩
    obtain ⟨f', rfl⟩ : ∃ k, f' = k + 1 := ⟨f' - 1, by omega⟩
    have le : nI l5 ≤ 1 := nI_le (b := 1) (a := l5) (by omega) (by decide)
    rw [pX9_halve_l11, pX13_folded_l42, pX9_halve_b11, pX13_folded_b42, if_pos le, if_pos le]
    by_cases c : n = 0
    · have c0 : nI n ≤ 0 := by rw [c]; decide
      rw [if_pos c0, if_pos c0]
      rcases hc with ⟨c1, c2⟩ | ⟨c1, c2⟩
      · rw [if_pos c1, if_neg c2]
        obtain ⟨v, o, s1, s2⟩ := n_setKind (h := h) Tt 1 (Or.inl rfl)
        refine ⟨numW h (B + t) v o, sr, 0, ?_, rfl, by rw [numW_d, numW_i]; exact s2, ⟨rfl, fun y _ _ _ y4 => (Eqa.rf h y).num y4⟩, FrG.rf B sr, by rw [numW_I _ _ _ _ (by omega)]; exact i1⟩
        unfold pX9_halve_b146
        rw [w_tg Tt, s1, w_bd]
      · rw [if_neg c1, if_pos c2]
        obtain ⟨v, o, s1, s2⟩ := n_setKind (h := h) Tt 4 (by simp)
        refine ⟨numW h (B + t) v o, sr, pX13_strangeOf 4, ?_, rfl, by rw [numW_d, numW_i]; exact s2, ⟨rfl, fun y _ _ _ y4 => (Eqa.rf h y).num y4⟩, FrG.rf B sr, by rw [numW_I _ _ _ _ (by omega)]; exact i1⟩
        unfold pX9_halve_b146
        rw [w_tg Tt, s1, w_bd]
    · have c0 : ¬ nI n ≤ 0 := by
        have := nI_ge (a := 0) (b := n) (by omega) (by omega)
        exact this
      rw [if_neg c0, if_neg c0]
      have N := F 0 (by omega)
      have f1 := row_fetch (h := h) (p := B + t) (work_row S p) Tt (show 0 < 16 by omega) (by decide) N.1
      refine ⟨numW h (B + t) (hD h (B + 134) 0) (hI h (B + 135) 0), sr, hD sr (B + 200) 0, ?_, ?_, by rw [numW_d, numW_i]; exact N, ⟨rfl, fun y _ _ _ y4 => (Eqa.rf h y).num y4⟩, FrG.rf B sr, by rw [numW_I _ _ _ _ (by omega)]; exact i1⟩
      · rw [w_lt, pc_132_1 p, w_nn, w_tg (st_133 S), show (0 : Int32) = nI 0 from rfl, f1, w_bd]
      · rw [w_lt, pr_187_43 p2, w_nn, w_tg (st_200 S), sl_200 S, show (0 : Int32) = nI 0 from rfl, w_ix (show 0 < 16 by decide) (by decide), nI_clamp (by decide)]
  | succ d ih =>
    intro l5 f f' h sr hl hl2 hl3 hf hf' p p2 i1 F
    by_cases c : l5 ≤ d + 1
    · exact ih l5 f f' h sr c hl2 hl3 (by omega) (by omega) p p2 i1 F
    · obtain ⟨f, rfl⟩ : ∃ k, f = k + 1 := ⟨f - 1, by omega⟩
      obtain ⟨f', rfl⟩ : ∃ k, f' = k + 1 := ⟨f' - 1, by omega⟩
      have nle : ¬ nI l5 ≤ 1 := nI_ge (a := 1) (b := l5) (by omega) (by omega)
      obtain ⟨h1, sr1, a1, a2, a3, a4, a5, a6⟩ := fold_pass (pr := pr) (q := q) (k11 := pX9_halve_l11 g (B + 132) q (nI n) cc (B + t) f) (k42 := pX13_folded_l42 g (B + 187) pr (nI n) cr f') S ht hc hn hl2 rfl (l5 - (l5 + 1) / 2) 0 FUEL FUEL h sr (by omega) (by unfold FUEL; omega) (by unfold FUEL; omega) p p2 i1 F
      obtain ⟨h2, sr2, x, b1, b2, b3, b4, b5, b6⟩ := ih ((l5 + 1) / 2) f f' h1 sr1 (by omega) (by omega) (by omega) (by omega) (by omega) (by rw [a4.1]; exact p) (by rw [a5.1]; exact p2) a6 a3
      refine ⟨h2, sr2, x, ?_, ?_, b3, a4.tr b4, a5.tr b5, b6⟩
      · rw [pX9_halve_l11, pX9_halve_b11, if_neg nle, w_lt, nI_half _ (by omega)]
        exact a1.trans b1
      · rw [pX13_folded_l42, pX13_folded_b42, if_neg nle, w_lt, nI_half _ (by omega)]
        exact a2.trans b2
/-- the reference takes the row's numbers -/
theorem fold_take (S : Sh B g) {sr : CT} (p2 : PtR B (hR sr)) {r n : Nat} {cr : Int32} (hr6 : r < 6) (hn : n ≤ 16) : ∃ sr', pX13_folded_l3 g (B + 187) (nI r) (nI n) cr FUEL 0 sr = pX13_folded_l42 g (B + 187) (nI r) (nI n) cr FUEL (nI n) (sI sr' (B + 187) 44 0) ∧ FrG B sr sr' ∧ ∀ i, i < n → hD sr' (B + 200) i = hD sr (B + 193) (16 * r + i) := by
  have key : ∀ (d j f : Nat) (s : CT), j + d = n → d < f → FrG B sr s → (∀ i, i < j → hD s (B + 200) i = hD sr (B + 193) (16 * r + i)) → ∃ sr', pX13_folded_l3 g (B + 187) (nI r) (nI n) cr f (nI j) s = pX13_folded_l42 g (B + 187) (nI r) (nI n) cr FUEL (nI n) (sI sr' (B + 187) 44 0) ∧ FrG B sr sr' ∧ ∀ i, i < n → hD sr' (B + 200) i = hD sr (B + 193) (16 * r + i) := by
    intro d
    induction d with
    | zero =>
      intro j f s hj hf hF hv
      obtain ⟨f, rfl⟩ : ∃ k, f = k + 1 := ⟨f - 1, by omega⟩
      obtain rfl : j = n := by omega
      refine ⟨s, ?_, hF, hv⟩
      rw [pX13_folded_l3, pX13_folded_b3, if_pos (nI_le (Nat.le_refl _) (by omega)), w_lt]
    | succ d ih =>
      intro j f s hj hf hF hv
      obtain ⟨f, rfl⟩ : ∃ k, f = k + 1 := ⟨f - 1, by omega⟩
      have e193 : hD s (B + 193) = hD sr (B + 193) := (hF.2.1 (B + 193) (by omega) (by omega)).2.2.1
      obtain ⟨sr', q1, q2, q3⟩ := ih (j + 1) f (sD s (B + 200) j (hD sr (B + 193) (16 * r + j))) (by omega) (by omega) (hF.tr (FrG.sd s)) (fun i hi => by
        rw [hD_sD, if_pos rfl]
        by_cases e : i = j
        · rw [e, ud_s]
        · rw [ud_n e]; exact hv i (by omega))
      refine ⟨sr', ?_, q2, q3⟩
      have ei : (16 * nI r + nI j : Int32) = nI (16 * r + j) := by rw [show (16 : Int32) = nI 16 from rfl, pk_mul, nI_add]
      rw [pX13_folded_l3, pX13_folded_b3, if_neg (nI_ge (show j < n by omega) (by omega)), w_lt, w_lt, hF.1, pr_187_43 p2, pr_187_20 p2, w_nn, w_tg (st_193 S), sl_193 S, ei, w_ix (show 16 * r + j < 984 by omega) (by decide), w_nn, w_tg (st_200 S), sl_200 S, w_ix (show j < 16 by omega) (by decide), w_lt, nI_clamp (by omega), nI_clamp (by omega), e193, w_lt, nI_1]
      exact q1
  exact key n 0 FUEL sr (by omega) (by unfold FUEL; omega) (FrG.rf B sr) (fun i hi => by omega)
/-- folding by halves: both alike -/
theorem fold_both (S : Sh B g) {h sr : CT} (p : PtC B (hR h)) (p2 : PtR B (hR sr)) {t : Nat} (ht : t = 136 ∨ t = 183 ∨ t = 184 ∨ t = 185 ∨ t = 186) {r n : Nat} {cc cr : Int32} (hc : (cc = 0 ∧ ¬ cr = 0) ∨ (¬ cc = 0 ∧ cr = 0)) (hr6 : r < 6) (hn : n ≤ 16) (i1 : is01 (hI h (B + 137) 1)) (R : RowR 16 (hD h (B + 13 + 3 + 3 * r)) (hI h (B + 13 + 4 + 3 * r)) (hD sr (B + 193)) (16 * r)) :
    ∃ h' sr' x, pX9_halve g h (B + 132) (B + 13 + 2 + 3 * r) (nI n) cc (B + t) = some h' ∧ pX13_folded g sr (B + 187) (nI r) (nI n) cr = some (x, sr') ∧ NumR (hD h' (B + t) 0) (hI h' (B + t) 1) x ∧ FrF B t h h' ∧ FrG B sr sr' ∧ is01 (hI h' (B + 137) 1) := by
  obtain ⟨M1, M2, M3, M4, M5, -⟩ := machA_13 S p
  obtain ⟨R1, R2⟩ := M5 r hr6
  have e3 : B + 13 + 2 + 3 * r + 1 = B + 13 + 3 + 3 * r := by omega
  have e4 : B + 13 + 2 + 3 * r + 2 = B + 13 + 4 + 3 * r := by omega
  obtain ⟨h1, a1, a2, a3⟩ := row_copy (h := h) (work_row S p) R2 (by omega) (by decide) (fun i hi => by rw [e4]; exact (R i hi).1)
  obtain ⟨sr1, b1, b2, b3⟩ := fold_take S p2 (cr := cr) hr6 hn
  have b2' : FrG B sr (sI sr1 (B + 187) 44 0) := b2.tr (FrG.s44 sr1)
  obtain ⟨h2, sr2, x, c1, c2, c3, c4, c5, c6⟩ := fold_all (pr := nI r) (q := B + 13 + 2 + 3 * r) (cc := cc) (cr := cr) S ht hc hn n n FUEL FUEL h1 (sI sr1 (B + 187) 44 0) (by omega) (by omega) (fun z => z) (by unfold FUEL; omega) (by unfold FUEL; omega) (by rw [a2.1]; exact p) (by rw [b2'.1]; exact p2) (by rw [(a2.2 (B + 137) (by omega) (by omega)).1]; exact i1) (fun i hi => by
    have z := a3 i (by omega)
    rw [e3, e4] at z
    have z1 : hD h1 (B + 134) i = hD h (B + 13 + 3 + 3 * r) i := z.1
    have z2 : hI h1 (B + 135) i = hI h (B + 13 + 4 + 3 * r) i := z.2
    have z3 : hD (sI sr1 (B + 187) 44 0) (B + 200) i = hD sr (B + 193) (16 * r + i) := b3 i hi
    rw [z1, z2, z3]
    exact R i (by omega))
  refine ⟨h2, sr2, x, ?_, ?_, c3, ⟨c4.1.trans a2.1, fun y y1 y2 y3 y4 => (a2.2 y y1 y2).tr (c4.2 y y1 y2 y3 y4)⟩, b2'.tr c5, c6⟩
  · unfold pX9_halve
    rw [w_tg (st_132 S), w_lt, pc_132_1 p, w_nn, w_tg (st_133 S), a1, w_bd, c1]
  · unfold pX13_folded
    rw [w_tg (st_187 S), b1, c2]
end FLE
