/-! fold, top: how many halvings; both -/
section FOQ
variable {B b L : Nat} {E : EC} {xs : Nat → Int32} {op st bt : Nat → Nat} {aL aS aO : Nat} {g : MT} {h h1 hr hr1 : CT} {q z p : Nat} {f : Nat → Nat} {ik n nb y t : Nat} {F : Nat → Nat → Nat} {G G0 : Nat → Nat → Int32}
def hvN : Nat → Nat → Nat
  | 0, _ => 0
  | d + 1, l => if l ≤ 1 then 0 else hvN d ((l + 1) / 2) + 1
theorem hvN_le (d l : Nat) : hvN d l ≤ d := by
  induction d generalizing l with
  | zero => exact Nat.le_refl 0
  | succ d ih =>
    have := ih ((l + 1) / 2)
    simp only [hvN]
    split <;> omega
theorem hvN_1 {l : Nat} (h : l ≤ 1) : ∀ d, hvN d l = 0
  | 0 => rfl
  | d + 1 => by rw [hvN, if_pos h]
theorem hvN_s {d l : Nat} (c : ¬ l ≤ 1) : hvN (d + 1) l = hvN d ((l + 1) / 2) + 1 := by rw [hvN, if_neg c]
/-- more fuel than is needed -/
theorem hvN_m : ∀ d l, l ≤ d + 1 → hvN (d + 1) l = hvN d l := by
  intro d
  induction d with
  | zero => intro l hl; rw [hvN_1 hl, hvN_1 hl]
  | succ d ih =>
    intro l hl
    by_cases c : l ≤ 1
    · rw [hvN_1 c, hvN_1 c]
    · rw [hvN, if_neg c, ih _ (by omega), hvN, if_neg c]
theorem hvN_e : ∀ k d l, l ≤ d + 1 → hvN (d + k) l = hvN d l := by
  intro k
  induction k with
  | zero => intro d l _; rfl
  | succ k ih => intro d l hl; rw [← Nat.add_assoc, hvN_m _ _ (by omega), ih d l hl]
theorem r_pass44 (S : Sh B g) {pr cr : Int32} {l5 l6 : Nat} (hn : n ≤ 16) (hl : l5 ≤ n) (h6 : l6 ≤ l5) {k42 : Int32 → CT → Option (UInt64 × CT)} : ∀ (d j f' : Nat) (sr : CT), j + l6 + d = l5 → d < f' → PtR B (hR sr) → ∃ sr', pX13_folded_l59 g (B + 187) pr (nI n) cr k42 f' (nI l5) (nI l6) (nI j) sr = k42 (nI l6) sr' ∧ PtR B (hR sr') ∧ hI sr' (B + 187) 44 = hI sr (B + 187) 44 + 1 := by
  intro d
  induction d with
  | zero =>
    intro j f' sr hj hf p2
    obtain ⟨f', rfl⟩ : ∃ k, f' = k + 1 := ⟨f' - 1, by omega⟩
    have le : (nI l5 - nI l6) ≤ nI j := by
      rw [pk_sub h6]
      exact nI_le (by omega) (by omega)
    exact ⟨sI sr (B + 187) 44 (hI sr (B + 187) 44 + 1), by rw [pX13_folded_l59, pX13_folded_b59, if_pos le, w_lt], p2, hI_s _ _ _ _⟩
  | succ d ih =>
    intro j f' sr hj hf p2
    obtain ⟨f', rfl⟩ : ∃ k, f' = k + 1 := ⟨f' - 1, by omega⟩
    have nle : ¬ (nI l5 - nI l6) ≤ nI j := by
      rw [pk_sub h6]
      exact nI_ge (by omega) (by omega)
    have s : ∃ x, pX13_folded_l59 g (B + 187) pr (nI n) cr k42 (f' + 1) (nI l5) (nI l6) (nI j) sr = pX13_folded_l59 g (B + 187) pr (nI n) cr k42 f' (nI l5) (nI l6) (nI (j + 1)) (sD sr (B + 200) j x) := by
      rw [pX13_folded_l59, pX13_folded_b59, if_neg nle, w_lt]
      unfold pX13_folded_b120
      rw [pr_187_43 p2]
      have c1 : j < 16 := by omega
      have c2 : j + l6 < 16 := by omega
      by_cases c : cr = 0
      · rw [if_pos c, w_lt, w_nn, w_tg (st_200 S), sl_200 S, w_ix c1 (by decide), w_lt, w_nn, w_tg (st_200 S), sl_200 S, nI_add, w_ix c2 (by decide), w_nn, w_tg (st_200 S), sl_200 S, w_ix c1 (by decide), w_lt, w_lt, nI_clamp (by omega), nI_1]
        exact ⟨_, rfl⟩
      · rw [if_neg c, w_lt, w_nn, w_tg (st_200 S), sl_200 S, w_ix c1 (by decide), w_lt, w_nn, w_tg (st_200 S), sl_200 S, nI_add, w_ix c2 (by decide), w_nn, w_tg (st_200 S), sl_200 S, w_ix c1 (by decide), w_lt, w_lt, nI_clamp (by omega), nI_1]
        exact ⟨_, rfl⟩
    obtain ⟨x, s⟩ := s
    obtain ⟨sr', a1, a2, a3⟩ := ih (j + 1) f' (sD sr (B + 200) j x) (by omega) (by omega) p2
    exact ⟨sr', s.trans a1, a2, a3⟩
theorem r_all44 (S : Sh B g) {pr cr : Int32} (hn : n ≤ 16) : ∀ (d l5 f' c : Nat) (sr : CT), l5 ≤ d + 1 → l5 ≤ n → d < f' → PtR B (hR sr) → hI sr (B + 187) 44 = nI c → ∃ x sr', pX13_folded_l42 g (B + 187) pr (nI n) cr f' (nI l5) sr = some (x, sr') ∧ hI sr' (B + 187) 44 = nI (c + hvN d l5) := by
  intro d
  induction d with
  | zero =>
    intro l5 f' c sr hl hl2 hf p2 e
    obtain ⟨f', rfl⟩ : ∃ k, f' = k + 1 := ⟨f' - 1, by omega⟩
    have le : nI l5 ≤ 1 := nI_le (b := 1) (a := l5) (by omega) (by decide)
    rw [pX13_folded_l42, pX13_folded_b42, if_pos le, hvN]
    by_cases c0 : nI n ≤ 0
    · rw [if_pos c0]
      split
      · exact ⟨_, _, rfl, e⟩
      · exact ⟨_, _, rfl, e⟩
    · rw [if_neg c0, w_lt, pr_187_43 p2, w_nn, w_tg (st_200 S), sl_200 S, w_ixl (show 0 < 16 by decide) (by decide)]
      exact ⟨_, _, rfl, e⟩
  | succ d ih =>
    intro l5 f' c sr hl hl2 hf p2 e
    obtain ⟨f', rfl⟩ : ∃ k, f' = k + 1 := ⟨f' - 1, by omega⟩
    by_cases c1 : l5 ≤ 1
    · have := ih l5 (f' + 1) c sr (by omega) hl2 (by omega) p2 e
      rw [hvN_1 c1] at this
      rw [hvN_1 c1]
      exact this
    · have nle : ¬ nI l5 ≤ 1 := nI_ge (a := 1) (b := l5) (by omega) (by omega)
      obtain ⟨sr1, a1, a2, a3⟩ := r_pass44 (pr := pr) (cr := cr) (l5 := l5) (l6 := (l5 + 1) / 2) (k42 := pX13_folded_l42 g (B + 187) pr (nI n) cr f') S hn hl2 (by omega) (l5 - (l5 + 1) / 2) 0 FUEL sr (by omega) (by unfold FUEL; omega) p2
      obtain ⟨x, sr2, b1, b2⟩ := ih ((l5 + 1) / 2) f' (c + 1) sr1 (by omega) (by omega) (by omega) a2 (by rw [a3, e, nI_1])
      refine ⟨x, sr2, ?_, ?_⟩
      · rw [pX13_folded_l42, pX13_folded_b42, if_neg nle, w_lt, nI_half _ (by omega)]
        exact a1.trans b1
      · rw [b2, hvN_s c1]
        congr 1
        omega
theorem fold_q (S : Sh B g) (Q : QZ B q z) (R : RunC B q z g h) (p2 : PtR B (hR hr)) (D : DM B q h hr) {r : Nat} {cc cr : Int32} (hc : (cc = 0 ∧ ¬ cr = 0) ∨ (¬ cc = 0 ∧ cr = 0)) (hr6 : r < 6) (hn : n ≤ 16) :
    ∃ h' sr' x, pX9_halve g h (B + 132) (q + 2 + 3 * r) (nI n) cc (B + 136) = some h' ∧ pX13_folded g hr (B + 187) (nI r) (nI n) cr = some (x, sr') ∧ NumR (hD h' (B + 136) 0) (hI h' (B + 136) 1) x ∧ FrF B 136 h h' ∧ FrG B hr sr' ∧ is01 (hI h' (B + 137) 1) ∧ hI sr' (B + 187) 44 = nI (hvN 16 n) := by
  have p := R.1
  obtain ⟨M1, M2, M3, M4, M5, -⟩ := R.2.2.2.1
  obtain ⟨R1, R2⟩ := M5 r hr6
  have e3 : q + 2 + 3 * r + 1 = q + 3 + 3 * r := by omega
  have e4 : q + 2 + 3 * r + 2 = q + 4 + 3 * r := by omega
  obtain ⟨h1, a1, a2, a3⟩ := row_copy (h := h) (work_row S p) R2 (by omega) (by decide) (fun i hi => by rw [e4]; exact (dm_num D hr6 hi).1)
  obtain ⟨sr1, b1, b2, b3⟩ := fold_take S p2 (cr := cr) hr6 hn
  have b2' : FrG B hr (sI sr1 (B + 187) 44 0) := b2.tr (FrG.s44 sr1)
  obtain ⟨h2, sr2, x, c1, c2, c3, c4, c5, c6⟩ := fold_all (pr := nI r) (q := q + 2 + 3 * r) (cc := cc) (cr := cr) S (Or.inl rfl) hc hn 16 n FUEL FUEL h1 (sI sr1 (B + 187) 44 0) (by omega) (by omega) (fun z => z) (by unfold FUEL; omega) (by unfold FUEL; omega) (by rw [a2.1]; exact p) (by rw [b2'.1]; exact p2) (by rw [(a2.2 (B + 137) (by omega) (by omega)).1]; exact R.2.2.2.2.2.2.2) (fun i hi => by
    have z := a3 i (by omega)
    rw [e3, e4] at z
    have z1 : hD h1 (B + 134) i = hD h (q + 3 + 3 * r) i := z.1
    have z2 : hI h1 (B + 135) i = hI h (q + 4 + 3 * r) i := z.2
    have z3 : hD (sI sr1 (B + 187) 44 0) (B + 200) i = hD hr (B + 193) (16 * r + i) := b3 i hi
    rw [z1, z2, z3]
    exact dm_num D hr6 (by omega))
  obtain ⟨x', sr3, d1, d2⟩ := r_all44 (n := n) (pr := nI r) (cr := cr) S hn 16 n FUEL 0 (sI sr1 (B + 187) 44 0) (by omega) (by omega) (by unfold FUEL; omega) (by rw [b2'.1]; exact p2) (hI_s _ _ _ _)
  rw [c2] at d1
  cases d1
  rw [Nat.zero_add] at d2
  refine ⟨h2, sr2, x, ?_, ?_, c3, ⟨c4.1.trans a2.1, fun y y1 y2 y3 y4 => (a2.2 y y1 y2).tr (c4.2 y y1 y2 y3 y4)⟩, b2'.tr c5, c6, d2⟩
  · unfold pX9_halve
    rw [w_tg (st_132 S), w_lt, pc_132_1 p, w_nn, w_tg (st_133 S), a1, w_bd, c1]
  · unfold pX13_folded
    rw [w_tg (st_187 S), b1, c2]
/-- the class's count of halvings -/
theorem k_hv (S : Sh B g) : ∀ (d l fu c : Nat), l ≤ d + 1 → l ≤ 16 → d < fu → pX9_doFold_l43 E g (B + 132) (nI ik) p fu (nI c) (nI l) h = pX9_doFold_b43 E g (B + 132) (nI ik) p (fun _ _ _ => none) (nI (c + hvN d l)) 1 h := by
  intro d
  induction d with
  | zero =>
    intro l fu c hl hl2 hf
    obtain ⟨fu, rfl⟩ : ∃ k, fu = k + 1 := ⟨fu - 1, by omega⟩
    have le : nI l ≤ 1 := nI_le (b := 1) (a := l) (by omega) (by decide)
    rw [pX9_doFold_l43, pX9_doFold_b43, pX9_doFold_b43, if_pos le, if_pos (by decide)]
    rfl
  | succ d ih =>
    intro l fu c hl hl2 hf
    by_cases c1 : l ≤ 1
    · rw [ih l fu c (by omega) hl2 (by omega), hvN_1 c1, hvN_1 c1]
    · obtain ⟨fu, rfl⟩ : ∃ k, fu = k + 1 := ⟨fu - 1, by omega⟩
      have nle : ¬ nI l ≤ 1 := nI_ge (a := 1) (b := l) (by omega) (by omega)
      rw [pX9_doFold_l43, pX9_doFold_b43, if_neg nle, w_lt, w_lt, nI_1, nI_half _ (by omega), ih ((l + 1) / 2) fu (c + 1) (by omega) (by omega) (by omega), hvN_s c1, show c + 1 + hvN d ((l + 1) / 2) = c + (hvN d ((l + 1) / 2) + 1) by omega]
end FOQ
