/-! bestSwap -/
section BSW
variable {B b L : Nat} {E : EC} {xs : Nat → Int32} {op st bt : Nat → Nat} {aL aS aO : Nat} {g : MT} {h h' h1 h2 hc hr hc' hr' hcx r : CT} {q z p pp : Nat} {π ρ : Pg} {k n nb y t T : Nat}
def AR0 (B : Nat) (h h' : CT) : Prop := hR h' = hR h ∧ (∀ w, w ≠ B + 187 → (w < B + 192 ∨ B + 200 < w) → Eqa h h' w) ∧ (∀ k, ¬ (29 ≤ k ∧ k ≤ 44 ∧ k ≠ 41) → k ≠ 51 → k ≠ 0 → hI h' (B + 187) k = hI h (B + 187) k) ∧ hL h' (B + 187) = hL h (B + 187) ∧ (∀ i, i < 1230 → hI h' (B + 192) i = hI h (B + 192) i) ∧ ∀ i, i < 820 → hD h' (B + 193) i = hD h (B + 193) i
theorem AR0.rf (B : Nat) (h : CT) : AR0 B h h := ⟨rfl, fun w _ _ => Eqa.rf h w, fun _ _ _ _ => rfl, rfl, fun _ _ => rfl, fun _ _ => rfl⟩
theorem AR0.tr (x : AR0 B h h1) (u : AR0 B h1 h2) : AR0 B h h2 := ⟨u.1.trans x.1, fun w a b => (x.2.1 w a b).tr (u.2.1 w a b), fun k a b c => (u.2.2.1 k a b c).trans (x.2.2.1 k a b c), u.2.2.2.1.trans x.2.2.2.1, fun i a => (u.2.2.2.2.1 i a).trans (x.2.2.2.2.1 i a), fun i a => (u.2.2.2.2.2 i a).trans (x.2.2.2.2.2 i a)⟩
theorem AR0.s0 (B : Nat) (h : CT) (v : Int32) : AR0 B h (sI h (B + 187) 0 v) := ⟨rfl, fun w a _ => (Eqa.rf h w).sI a, fun k _ _ c => by rw [hI_sI, if_pos rfl, ud_n c], rfl, fun i _ => by rw [hI_sI, if_neg (by omega)], fun _ _ => rfl⟩
theorem MR.r0 (h30 : π.1 ≤ 30) (x : AR0 B hr hr') (M : MR B op g hc hr pp π) : MR B op g hc hr' pp π := by
  obtain ⟨m1, m2, m3, m4, m5, m6, m7, m8, m9⟩ := M
  exact ⟨m1, by rw [x.1]; exact m2, m3, m4, MacD.keep2 (fun j _ => ⟨rfl, rfl⟩) (fun i _ i2 => x.2.2.2.2.1 i (by omega)) (fun i _ i2 => x.2.2.2.2.2 i (by omega)) m5, m6, m7, m8, m9.keep2 h30 (fun i _ i2 => x.2.2.2.2.1 i (by omega))⟩
theorem gain_no (S : Sh B g) {x : Int32} (hx : ¬ x ≤ 0) {a : Int32} (why : pX13_whyNoSwap g r (B + 187) a = some x) : pX13_gainOf g r (B + 187) a = some (-1, sI r (B + 187) 0 x) := by
  unfold pX13_gainOf
  rw [w_tg (st_187 S), why, w_bd, w_lt, hI_s, if_neg hx]
/-- the last one has none behind it -/
theorem why_last (S : Sh B g) (p2 : PtR B (hR r)) (PM : PgM (hI r (B + 192)) 0 π) (wf : WF π) (hk : k + 1 = π.1) : pX13_whyNoSwap g r (B + 187) (nI k) = some 2 := by
  have h30 := wf.1
  have c1 := m_code S p2 PM wf (show k < 2 ^ 31 by omega)
  have c2 := m_code S p2 PM wf (show k + 1 < 2 ^ 31 by omega)
  rw [if_pos (by omega)] at c1
  rw [if_neg (by omega)] at c2
  unfold pX13_whyNoSwap
  rw [w_tg (st_187 S), c1, w_bd, if_neg (by decide), nI_1, c2, w_bd, if_pos rfl]
/-- the reference's turn, when the gain can't be told -/
theorem best_skip (S : Sh B g) (p2 : PtR B (hR r)) (PM : PgM (hI r (B + 192)) 0 π) (wf : WF π) (hk : k < π.1) {y : Int32} {r1 : CT} (e : pX13_gainOf g r (B + 187) (nI k) = some (y, r1)) (e0 : 0 < hI r1 (B + 187) 0) (l1 l2 : Int32) (f : Nat) : pX13_bestSwap_l11 g (B + 187) (f + 1) l1 l2 (nI k) r = pX13_bestSwap_l11 g (B + 187) f l1 l2 (nI (k + 1)) r1 := by
  have h30 := wf.1
  rw [pX13_bestSwap_l11, pX13_bestSwap_b11, w_lt, pr_187_19 p2, w_nn, w_tg (st_192 S), sl_192 S, w_ixl (show 5 < 1476 by decide) (by decide), cl_l 5 (by decide), show hI r (B + 192) 5 = nI π.1 from PM.1, if_neg (nI_ge hk (by omega)), e, w_bd2, if_pos e0]
  unfold pX13_bestSwap_b49
  rw [w_lt, nI_1]
theorem best_end (S : Sh B g) (p2 : PtR B (hR r)) (PM : PgM (hI r (B + 192)) 0 π) (wf : WF π) (l1 l2 : Int32) (f : Nat) : pX13_bestSwap_l11 g (B + 187) (f + 1) l1 l2 (nI π.1) r = if 0 ≤ l1 then some (l1, sI r (B + 187) 0 0) else some (-1, sI r (B + 187) 0 8) := by
  have h30 := wf.1
  rw [pX13_bestSwap_l11, pX13_bestSwap_b11, w_lt, pr_187_19 p2, w_nn, w_tg (st_192 S), sl_192 S, w_ixl (show 5 < 1476 by decide) (by decide), cl_l 5 (by decide), show hI r (B + 192) 5 = nI π.1 from PM.1, if_pos (nI_le (Nat.le_refl _) (by omega)), w_lt, m_answer S, sI_sI]
  by_cases c : 0 ≤ l1
  · rw [if_pos c, if_pos c]; rfl
  · rw [if_neg c, if_neg c]; rfl
theorem best_none (S : Sh B g) (wf : WF π) (p2 : PtR B (hR hr)) (PM : PgM (hI hr (B + 192)) 0 π) (no : ∀ r, AR0 B hr r → ∀ j, j < π.1 → ∃ y r1, pX13_gainOf g r (B + 187) (nI j) = some (y, r1) ∧ 0 < hI r1 (B + 187) 0 ∧ AR0 B hr r1) (l2 : Int32) : ∀ (d k f : Nat) (r : CT), k + d = π.1 → d < f → AR0 B hr r → ∃ r1, AR0 B hr r1 ∧ pX13_bestSwap_l11 g (B + 187) f (-1) l2 (nI k) r = some (-1, sI r1 (B + 187) 0 8) := by
  have h30 := wf.1
  have pm : ∀ r, AR0 B hr r → PgM (hI r (B + 192)) 0 π := fun r x => PM.keep2 h30 fun i _ _ => x.2.2.2.2.1 i (by omega)
  intro d
  induction d with
  | zero =>
    intro k f r e1 e2 x
    obtain ⟨f, rfl⟩ : ∃ f', f = f' + 1 := ⟨f - 1, by omega⟩
    obtain rfl : k = π.1 := by omega
    exact ⟨r, x, by rw [best_end S (by rw [x.1]; exact p2) (pm r x) wf, if_neg (by decide)]⟩
  | succ d ih =>
    intro k f r e1 e2 x
    obtain ⟨f, rfl⟩ : ∃ f', f = f' + 1 := ⟨f - 1, by omega⟩
    obtain ⟨y, r1, g1, g2, g3⟩ := no r x k (by omega)
    rw [best_skip S (by rw [x.1]; exact p2) (pm r x) wf (by omega) g1 g2]
    exact ih (k + 1) f r1 (by omega) (by omega) g3
theorem best_loop (K : EOK E b L xs op st bt aL aS aO) (S : Sh B g) (wf : WF π) (M : MR B op g hc hr pp π) {v : Nat} (hv : v < 2 ^ 30) (t0 : pX12_trialCycles E g hc B (-1) = some (nI v, hcx)) : ∀ (d k fc fr : Nat) (best most : Int32) (h r : CT), k + d + 1 = π.1 → d < fc → d + 1 < fr → (best = -1 ∨ ∃ i, i < 30 ∧ best = nI i) → AC B hc h → AR0 B hr r →
    ∃ h' r' best', AC B hc h' ∧ AR0 B hr r' ∧ (best' = -1 ∨ ∃ i, i < 30 ∧ best' = nI i) ∧ pX12_bestSwap_l31 E g B fc best most (nI v) (nI k) h = pX12_bestSwap_b108 E g B best' h' ∧ pX13_bestSwap_l11 g (B + 187) fr best most (nI k) r = if 0 ≤ best' then some (best', sI r' (B + 187) 0 0) else some (-1, sI r' (B + 187) 0 8) := by
  have h30 := wf.1
  intro d
  induction d with
  | zero =>
    intro k fc fr best most h r e1 e2 e3 hb x u
    obtain ⟨fc, rfl⟩ : ∃ f', fc = f' + 1 := ⟨fc - 1, by omega⟩
    obtain ⟨fr, rfl⟩ : ∃ f', fr = f' + 2 := ⟨fr - 2, by omega⟩
    have M1 := (M.c S x).r0 h30 u
    obtain ⟨m1, m2, m3, m4, m5, m6, m7, m8, m9⟩ := M1
    have c5 : (hI h pp 1 - 1 : Int32) = nI k := by rw [m8.2.2.2.2.1]; exact (pk_sub (a := π.1) (b := 1) (by omega)).trans (congrArg nI (by omega))
    refine ⟨h, sI r (B + 187) 0 2, best, x, u.tr (AR0.s0 B r 2), hb, ?_, ?_⟩
    · rw [pX12_bestSwap_l31, pX12_bestSwap_b31, if_neg (gok_neg hv), w_lt, pc_0_4 m1, w_nn, w_tg (st_13 S), w_lt, m6, w_nn, w_tg m8.1, c5, if_pos (nI_le (Nat.le_refl _) (by omega))]
    · have u2 := u.tr (AR0.s0 B r 2)
      have pm2 : PgM (hI (sI r (B + 187) 0 2) (B + 192)) 0 π := M.2.2.2.2.2.2.2.2.keep2 h30 fun i _ _ => u2.2.2.2.2.1 i (by omega)
      have m2' : PtR B (hR (sI r (B + 187) 0 2)) := m2
      rw [show fr + 2 = (fr + 1) + 1 from rfl, best_skip S m2 m9 wf (by omega) (gain_no S (by decide) (why_last S m2 m9 wf e1)) (by rw [hI_s]; decide), show k + 1 = π.1 from e1, best_end S m2' pm2 wf]
  | succ d ih =>
    intro k fc fr best most h r e1 e2 e3 hb x u
    obtain ⟨fc, rfl⟩ : ∃ f', fc = f' + 1 := ⟨fc - 1, by omega⟩
    obtain ⟨fr, rfl⟩ : ∃ f', fr = f' + 1 := ⟨fr - 1, by omega⟩
    have M0 := M.r0 h30 u
    have M1 := M0.c S x
    obtain ⟨m1, m2, m3, m4, m5, m6, m7, m8, m9⟩ := id M1
    have hk : k + 1 < π.1 := by omega
    have c5 : (hI h pp 1 - 1 : Int32) = nI (π.1 - 1) := by rw [m8.2.2.2.2.1]; exact pk_sub (a := π.1) (b := 1) (by omega)
    have cls : ∀ s, pX7_canSwap E g h pp (nI k) = some s → pX12_bestSwap_l31 E g B (fc + 1) best most (nI v) (nI k) h = (if s = 0 then pX12_bestSwap_b78 E g B (pX12_bestSwap_l31 E g B fc) best most (nI v) (nI k) (-1) h else bd2 (pX12_trialCycles E g h B (nI k)) fun x16 h14 => (pX12_bestSwap_b78 E g B (pX12_bestSwap_l31 E g B fc) best most (nI v) (nI k) x16 h14)) := fun s e => by
      rw [pX12_bestSwap_l31, pX12_bestSwap_b31, if_neg (gok_neg hv)]
      simp only [w_lt, pc_0_4 m1, w_nn, w_tg (st_13 S), m6, w_tg m8.1, c5, if_neg (show ¬ nI (π.1 - 1) ≤ nI k from nI_ge (by omega) (by omega)), e, w_bd]
    have skip : ∀ h, pX12_bestSwap_b78 E g B (pX12_bestSwap_l31 E g B fc) best most (nI v) (nI k) (-1) h = pX12_bestSwap_l31 E g B fc best most (nI v) (nI (k + 1)) h := fun h => by
      unfold pX12_bestSwap_b78 pX12_bestSwap_b102
      rw [if_pos rfl, w_lt, nI_1]
    rcases can_why K S m2 m8 m9 wf hk with ⟨dep, cs, ws⟩ | ⟨cs, ws⟩
    · obtain ⟨v', u', hc1, f1, f2, f3, f4, rest⟩ := gain_both K S wf M0 hk dep ws
      rw [t0] at f3
      have ee := Prod.mk.inj (Option.some.inj f3)
      have u0 : u' = 0 := Classical.byContradiction fun w => by
        have := ee.1
        rw [if_neg w] at this
        exact gok_neg hv this
      have ev : nI v' = nI v := by
        have := ee.1
        rw [if_pos u0] at this
        exact this.symm
      obtain ⟨v2, u2, hc3, r1, g1, g2, g3, g4, g5, g6, g7, g8, g9, g10, g11⟩ := rest h M1
      have u1 : AR0 B hr r1 := u.tr ⟨g5, g6, g7, g8, g9, g10⟩
      have cls1 := cls 1 cs
      rw [if_neg (by decide), g3, w_bd2] at cls1
      rcases g11 with ⟨-, u20, s0, gg⟩ | ⟨nu, s12, gg⟩
      · rw [if_pos u20] at cls1
        rw [ev] at gg
        have nb : ∀ bb mm, pX13_bestSwap_b49 g (B + 187) (pX13_bestSwap_l11 g (B + 187) fr) bb mm (nI k) r1 = pX13_bestSwap_l11 g (B + 187) fr bb mm (nI (k + 1)) r1 := fun bb mm => by unfold pX13_bestSwap_b49; rw [w_lt, nI_1]
        have refS : pX13_bestSwap_l11 g (B + 187) (fr + 1) best most (nI k) r = if most < nI v - nI v2 then pX13_bestSwap_l11 g (B + 187) fr (nI k) (nI v - nI v2) (nI (k + 1)) r1 else pX13_bestSwap_l11 g (B + 187) fr best most (nI (k + 1)) r1 := by
          rw [pX13_bestSwap_l11, pX13_bestSwap_b11, w_lt, pr_187_19 m2, w_nn, w_tg (st_192 S), sl_192 S, w_ixl (show 5 < 1476 by decide) (by decide), cl_l 5 (by decide), show hI r (B + 192) 5 = nI π.1 from m9.1, if_neg (nI_ge (by omega) (by omega)), gg, w_bd2, s0, if_neg (by decide)]
          simp only [nb]
        have clsS : pX12_bestSwap_l31 E g B (fc + 1) best most (nI v) (nI k) h = if (nI v - nI v2) ≤ most then pX12_bestSwap_l31 E g B fc best most (nI v) (nI (k + 1)) hc3 else pX12_bestSwap_l31 E g B fc (nI k) (nI v - nI v2) (nI v) (nI (k + 1)) hc3 := by
          rw [cls1]
          unfold pX12_bestSwap_b78 pX12_bestSwap_b102
          rw [if_neg (gok_neg g1), w_lt, w_lt, w_lt, nI_1]
        rw [refS, clsS]
        by_cases c : most < nI v - nI v2
        · rw [if_pos c, if_neg (by rw [Int32.le_iff_toInt_le]; rw [Int32.lt_iff_toInt_lt] at c; omega)]
          exact ih (k + 1) fc fr (nI k) (nI v - nI v2) hc3 r1 (by omega) (by omega) (by omega) (Or.inr ⟨k, by omega, rfl⟩) (x.tr g4) u1
        · rw [if_neg c, if_pos (by rw [Int32.le_iff_toInt_le]; rw [Int32.lt_iff_toInt_lt] at c; omega)]
          exact ih (k + 1) fc fr best most hc3 r1 (by omega) (by omega) (by omega) hb (x.tr g4) u1
      · have u20 : ¬ u2 = 0 := fun w => nu ⟨u0, w⟩
        rw [if_neg u20, skip] at cls1
        rw [cls1, best_skip S m2 m9 wf (by omega) gg (by rw [s12]; decide)]
        exact ih (k + 1) fc fr best most hc3 r1 (by omega) (by omega) (by omega) hb (x.tr g4) u1
    · rw [cls 0 cs, if_pos rfl, skip, best_skip S m2 m9 wf (by omega) (gain_no S (by decide) ws) (by rw [hI_s]; decide)]
      exact ih (k + 1) fc fr best most h _ (by omega) (by omega) (by omega) hb x (u.tr (AR0.s0 B r 9))
theorem C_bestSwap (K : EOK E b L xs op st bt aL aS aO) : K_bestSwap B E op := by
  intro g hc hr H
  obtain ⟨S, p1, p2, r1, r2, r3, r4, r5, r6, r7, r8⟩ := id H
  have r192 : hI (sI hr (B + 187) 1 0) (B + 192) = hI hr (B + 192) := by rw [hI_sI, if_neg (by omega)]
  have M0 : MacR B op g hc 13 (sI hr (B + 187) 1 0) 0 := MacR.keep (hr := hr) (hr' := sI hr (B + 187) 1 0) S (W := []) (OfC.rf hc) rfl (by omega) rfl r192 rfl r5
  have p2' : PtR B (hR (sI hr (B + 187) 1 0)) := p2
  obtain ⟨D, pp, π, e8, n174, wf, PC, PM⟩ := M0
  have h30 := wf.1
  have M : MR B op g hc (sI hr (B + 187) 1 0) pp π := ⟨p1, p2', r2, ⟨r8.1, r8.2.1⟩, D, e8, n174, PC, PM⟩
  have fin : ∀ hc' r v, AC B hc hc' → AR0 B (sI hr (B + 187) 1 0) r → Rel B op g (sI hc' B 19 v) (sI r (B + 187) 0 v) := fun hc' r v x u => H.asd (hr' := sI r (B + 187) 0 v) x u.1 (fun w w1 w2 => (((Eqa.rf hr w).sI w1).tr (u.2.1 w w1 w2)).sI w1) (fun k k1 k2 k3 k4 => by rw [hI_sI, if_pos rfl, ud_n k3, u.2.2.1 k k1 k2 k3, hI_sI, if_pos rfl, ud_n k4]) (u.2.2.2.1) (fun i hi => by rw [hI_sI, if_neg (by omega), u.2.2.2.2.1 i hi, r192]) (fun i hi => u.2.2.2.2.2 i hi) (by rw [hI_s])
  have ac0 : AC B hc hc := AC.rf p1 ⟨r8.1, r8.2.1⟩
  have ref : pX13_bestSwap g hr (B + 187) = pX13_bestSwap_l11 g (B + 187) FUEL (-1) 0 (nI 0) (sI hr (B + 187) 1 0) := by
    unfold pX13_bestSwap
    rw [w_tg (st_187 S), w_lt]; rfl
  have fu : 100 < FUEL := by decide
  have b108 : ∀ h, pX12_bestSwap_b108 E g B (-1) h = some (-1, sI h B 19 8) := fun h => by unfold pX12_bestSwap_b108; rw [if_pos rfl, k_refuse S, w_bd2]
  have c31 : ∀ h, pX12_bestSwap_b27 E g B (-1) 0 (-1) h = some (-1, sI h B 19 8) := fun h => by
    unfold pX12_bestSwap_b27
    obtain ⟨w, hw⟩ : ∃ w, FUEL = w + 1 := ⟨FUEL - 1, by omega⟩
    rw [hw, pX12_bestSwap_l31, pX12_bestSwap_b31, if_pos rfl, b108]
  by_cases n2 : 2 ≤ π.1
  · have cls : pX12_bestSwap E g hc B = bd2 (pX12_trialCycles E g hc B (-1)) fun x8 h6 => (pX12_bestSwap_b27 E g B (-1) 0 x8 h6) := by
      simp only [pX12_bestSwap, w_tg (st_0 S), w_lt, pc_0_4 p1, w_nn, w_tg (st_13 S), e8, w_tg PC.1, PC.2.2.2.2.1, if_pos (show (2 : Int32) ≤ nI π.1 from nI_le (a := 2) n2 (by omega))]
    generalize hs : sI (sI hr (B + 187) 1 0) (B + 187) 51 0 = s
    have as : AR B (sI hr (B + 187) 1 0) s := by
      rw [← hs]
      exact ⟨rfl, fun w w1 _ => (Eqa.rf _ w).sI w1, fun k _ k2 => by rw [hI_sI, if_pos rfl, ud_n k2], rfl, fun i _ => by rw [hI_sI, if_neg (by omega)], fun _ _ => rfl⟩
    obtain ⟨hc1, -, v, u, f1, f2, f3, -, -, f6, -⟩ := aside K S wf (M.r h30 as) (by rw [← hs, hI_s]; exact Or.inl rfl) (arg := -1) (Or.inl rfl)
    by_cases u0 : u = 0
    · rw [if_pos u0] at f3
      obtain ⟨h', r', best', g1, g2, g3, g4, g5⟩ := best_loop K S wf M f1 f3 (π.1 - 1) 0 FUEL FUEL (-1) 0 hc1 (sI hr (B + 187) 1 0) (by omega) (by omega) (by omega) (Or.inl rfl) f6 (AR0.rf B _)
      have cls2 : pX12_bestSwap E g hc B = pX12_bestSwap_b108 E g B best' h' := by
        rw [cls, f3, w_bd2]
        unfold pX12_bestSwap_b27
        exact g4
      rcases g3 with rfl | ⟨i, hi, rfl⟩
      · rw [if_neg (by decide)] at g5
        rw [b108] at cls2
        exact ⟨-1, _, _, cls2, ref.trans g5, fin h' r' 8 g1 g2⟩
      · have i0 : (0 : Int32) ≤ nI i := nI_le (a := 0) (Nat.zero_le _) (by omega)
        rw [if_pos i0] at g5
        have b2 : pX12_bestSwap_b108 E g B (nI i) h' = some (nI i, sI h' B 19 0) := by
          unfold pX12_bestSwap_b108
          rw [if_neg (gok_neg (by omega)), k_answer S, w_bd2]
        rw [b2] at cls2
        exact ⟨nI i, _, _, cls2, ref.trans g5, fin h' r' 0 g1 g2⟩
    · rw [if_neg u0] at f3
      obtain ⟨r1, y1, y2⟩ := best_none S wf p2' PM (fun r x j hj => by
        have M1 := M.r0 h30 x
        obtain ⟨m1, m2, m3, m4, m5, m6, m7, m8, m9⟩ := id M1
        by_cases hj1 : j + 1 < π.1
        · rcases can_why K S m2 m8 m9 wf hj1 with ⟨dep, cs, ws⟩ | ⟨cs, ws⟩
          · obtain ⟨v', u', hc1', f1', f2', f3', f4', rest⟩ := gain_both K S wf M1 hj1 dep ws
            rw [f3] at f3'
            have ee := Prod.mk.inj (Option.some.inj f3')
            obtain ⟨v2, u2, hc3, r1, g1, g2, g3, g4, g5, g6, g7, g8, g9, g10, g11⟩ := rest hc M1
            rcases g11 with ⟨u0', -, -, -⟩ | ⟨nu, s12, gg⟩
            · exfalso
              have := ee.1
              rw [if_pos u0'] at this
              exact gok_neg f1' this.symm
            · exact ⟨_, r1, gg, by rw [s12]; decide, x.tr ⟨g5, g6, g7, g8, g9, g10⟩⟩
          · exact ⟨_, _, gain_no S (by decide) ws, by rw [hI_s]; decide, x.tr (AR0.s0 B r 9)⟩
        · exact ⟨_, _, gain_no S (by decide) (why_last S m2 m9 wf (by omega)), by rw [hI_s]; decide, x.tr (AR0.s0 B r 2)⟩) 0 π.1 0 FUEL (sI hr (B + 187) 1 0) (by omega) (by omega) (AR0.rf B _)
      exact ⟨-1, _, _, by show pX12_bestSwap E g hc B = _; rw [cls, f3, w_bd2, c31], ref.trans y2, fin hc1 r1 8 f6 y1⟩
  · have cls : pX12_bestSwap E g hc B = some (-1, sI hc B 19 8) := by
      rw [← c31 hc]
      simp only [pX12_bestSwap, w_tg (st_0 S), w_lt, pc_0_4 p1, w_nn, w_tg (st_13 S), e8, w_tg PC.1, PC.2.2.2.2.1, if_neg (show ¬ (2 : Int32) ≤ nI π.1 from nI_ge (b := 2) (by omega) (by omega))]
    obtain ⟨r1, y1, y2⟩ := best_none S wf p2' PM (fun r x j hj => by
      have M1 := M.r0 h30 x
      obtain ⟨m1, m2, m3, m4, m5, m6, m7, m8, m9⟩ := id M1
      exact ⟨_, _, gain_no S (by decide) (why_last S m2 m9 wf (by omega)), by rw [hI_s]; decide, x.tr (AR0.s0 B r 2)⟩) 0 π.1 0 FUEL (sI hr (B + 187) 1 0) (by omega) (by omega) (AR0.rf B _)
    exact ⟨-1, _, _, cls, ref.trans y2, fin hc r1 8 ac0 y1⟩
end BSW
