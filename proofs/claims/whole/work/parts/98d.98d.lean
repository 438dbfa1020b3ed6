/-! a run aside: from the machine as it stands -/
section ASD2
variable {B b L : Nat} {E : EC} {xs : Nat → Int32} {op st bt : Nat → Nat} {aL aS aO : Nat} {g : MT} {h h' h1 h2 hc hr hc' hr' : CT} {q z p pp : Nat} {π ρ : Pg} {k n nb y t T : Nat}
theorem BFr.ac (x : BFr B (B + 145) (B + 176) h h') (p : PtC B (hR h)) : AC B h h' := ⟨x.ptc p, x.2.2.2.2, fun a a1 a2 a3 => by
  have e := x.2.1 a (by omega) (by omega) (by omega)
  exact ⟨e.1, e.2.1, e.2.2, funext fun k => x.1 a k (by omega)⟩, x.2.2.1, x.2.2.2.1⟩
theorem no_175 : ∀ q ∈ spC, q.1 ≠ 175 ∧ ¬ (q.1 = 145 ∧ q.2.1 = 8) := by decide +kernel
theorem aside (K : EOK E b L xs op st bt aL aS aO) (S : Sh B g) (wf : WF π) (M : MR B op g hc hr pp π) (u51 : is01 (hI hr (B + 187) 51)) {arg : Int32} (ha : arg = -1 ∨ ∃ k, arg = nI k ∧ k + 1 < π.1 ∧ depP π k (k + 1) = 0) :
    ∃ hc' hr' v u, v < 2 ^ 30 ∧ is01 u ∧ pX12_trialCycles E g hc B arg = some (if u = 0 then nI v else -1, hc') ∧ pX13_cyclesAside g hr (B + 187) arg = some (nI v, hr') ∧ hI hr' (B + 187) 51 = hI hr (B + 187) 51 ||| u ∧ AC B hc hc' ∧ AR B hr hr' := by
  obtain ⟨m1, m2, m3, m4, m5, m6, m7, m8, m9⟩ := M
  have h30 := wf.1
  obtain ⟨h4, c1, c2, c3, c4, c5, c6, c7, c8⟩ := mach_copy (machA_145 S m1) (machA_13 S m1) (by omega) m5.bits
  obtain ⟨r1, d1, d2, d3, d4, d5, d6⟩ := m_copy (h := hr) (s := 0) (t := 5) S m2 (by omega) (by omega) (by omega)
  have d1' : pX13_copy g hr (B + 187) 0 5 = some r1 := d1
  have D4 : DM B (B + 145) h4 r1 := m5.copy c5 c6 c7 c8 (fun i hi => d4 _ (by omega)) (fun i hi => d6 _ (by omega))
  have pC4 : PtC B (hR h4) := m1.same fun x k hx => c3 x k (hx 145 (by simp))
  have ac4 : AC B hc h4 := ⟨pC4, ⟨by rw [(c2 (B + 136) (by omega)).1]; exact m4.1, by rw [(c2 (B + 137) (by omega)).1]; exact m4.2⟩, fun a a1 a2 a3 => c2 a (by omega), fun k _ => by rw [(c2 (B + 130) (by omega)).1], fun k _ => by rw [(c2 (B + 130) (by omega)).2.1]⟩
  have PC4 := ac4.pg S m7 m8
  have PM1 : PgM (hI r1 (B + 192)) 0 π := m9.keep2 h30 fun i _ _ => d4 i (by omega)
  have p21 : PtR B (hR r1) := by rw [d2.1]; exact m2
  have e187 : hI r1 (B + 187) = hI hr (B + 187) := (d2.2 (B + 187) (by omega) (by omega)).1
  have l187 : hL r1 (B + 187) = hL hr (B + 187) := (d2.2 (B + 187) (by omega) (by omega)).2.1
  have pow4 : PowR B h4 := fun k hk => by rw [(c2 (B + 131) (by omega)).2.2.1]; exact m3 k hk
  rcases ha with rfl | ⟨k, rfl, hk, dep⟩
  · obtain ⟨hc', hr', v, u, f1, f2, f3, f4, f5, f6, f7, f8, f9, f10, f11, f12, f13, f14⟩ := aside_run K S wf pC4 p21 pow4 ac4.2.1 D4 (by rw [c4]; exact m6) PC4 PM1 (by rw [e187]; exact u51) (-1) (-1)
    refine ⟨hc', hr', v, u, f1, f2, ?_, ?_, by rw [f5, e187], ac4.tr (f6.ac pC4), ⟨f7.trans d2.1, fun w w1 w2 => (d2.2 w (by omega) (by omega)).tr (f8 w w1 w2), fun k k1 k2 => by rw [f9 k k1 k2, e187], by rw [f10, l187], fun i hi => ?_, fun i hi => ?_⟩⟩
    · rw [← f3]
      unfold pX12_trialCycles
      simp only [w_tg (st_0 S), w_lt, pc_0_11 m1, pc_0_4 m1, w_nn, w_tg (st_145 S), c1, w_bd, if_true]
    · rw [← f4]
      unfold pX13_cyclesAside
      rw [w_tg (st_187 S), d1', w_bd, if_pos (by decide)]
    · by_cases c : i < 246
      · rw [f11 i c]
        have := d3 i c
        rw [show 246 * 5 + i = 1230 + i by omega, show 246 * 0 + i = i by omega] at this
        exact this
      · rw [f12 i (by omega)]; exact d4 i (by omega)
    · by_cases c : i < 164
      · rw [f13 i c]
        have := d5 i c
        rw [show 164 * 5 + i = 820 + i by omega, show 164 * 0 + i = i by omega] at this
        exact this
      · rw [f14 i (by omega)]; exact d6 i (by omega)
  · obtain ⟨x, k1, k2, k3, k4, k5, k6⟩ := k_copySw S pC4 PC4 h30 m7 hk
    obtain ⟨r2, x1, x2, x3, x4, x5⟩ := m_exch S p21 (show k < 30 by omega)
    have wfS := swP_wf wf hk dep
    generalize hy : sR x (B + 145) 8 (some (B + 174)) = h17
    have yR : ∀ w j, ¬ (w = B + 145 ∧ j = 8) → hR h17 w j = hR x w j := fun w j hw => by
      rw [← hy, hR_sR]
      by_cases c : w = B + 145
      · rw [if_pos c, ← c, ud_n (fun e => hw ⟨c, e⟩)]
      · rw [if_neg c]
    have yI : hI h17 = hI x := by rw [← hy]; rfl
    have yL : hL h17 = hL x := by rw [← hy]; rfl
    have yD : hD h17 = hD x := by rw [← hy]; rfl
    have y8 : hR h17 (B + 145) 8 = some (B + 174) := by rw [← hy, hR_s]
    have yR2 : ∀ w j, w ≠ B + 175 → ¬ (w = B + 145 ∧ j = 8) → hR h17 w j = hR h4 w j := fun w j a c => (yR w j c).trans (k2 w j a)
    have yI2 : ∀ w, w ≠ B + 174 → hI h17 w = hI h4 w := fun w a => by rw [yI]; exact k3 w a
    have pC17 : PtC B (hR h17) := fun w hw => by
      have nn := no_175 w hw
      rw [yR2 _ _ (by omega) (fun c => nn.2 ⟨by omega, c.2⟩)]
      exact pC4 w hw
    have ac17 : AC B h4 h17 := ⟨pC17, ⟨by rw [yI2 _ (by omega)]; exact ac4.2.1.1, by rw [yI2 _ (by omega)]; exact ac4.2.1.2⟩, fun a a1 a2 a3 => ⟨yI2 a (by omega), by rw [yL, k4], by rw [yD, k5], funext fun j => yR2 a j (by omega) (by omega)⟩, fun k _ => by rw [yI2 _ (by omega)], fun k _ => by rw [yL, k4]⟩
    have D17 : DM B (B + 145) h17 r2 := MacD.keep2 (hc := h4) (cc := hI r1 (B + 192)) (vv := hD r1 (B + 193)) (fun j hj => ⟨yI2 _ (by omega), by rw [yD, k5]⟩) (fun i _ i2 => x5 i (by omega)) (fun i _ _ => by rw [x3]) D4
    have PC17 : PgC op g h17 (B + 174) (swP π k) := by
      obtain ⟨b1, b2, b3, b4, b5, b6⟩ := k6
      refine ⟨b1, by rw [yR _ _ (by omega)]; exact b2, b3, b4, by rw [yI]; exact b5, fun j hj => ?_⟩
      obtain ⟨i, i1, i2, i3, i4⟩ := b6 j hj
      refine ⟨i, by rw [yR _ _ (by omega)]; exact i1, i2, by rw [yR _ _ (by omega)]; exact i3, fun f f1 f2 => by rw [yI]; exact i4 f f1 f2⟩
    have PM2 : PgM (hI r2 (B + 192)) 0 (swP π k) := swP_pgm hk dep PM1 x4 x5
    have e187' : hI r2 (B + 187) = hI hr (B + 187) := by rw [(x2.2 (B + 187) (by omega)).1, e187]
    have l187' : hL r2 (B + 187) = hL hr (B + 187) := by rw [(x2.2 (B + 187) (by omega)).2.1, l187]
    obtain ⟨hc', hr', v, u, f1, f2, f3, f4, f5, f6, f7, f8, f9, f10, f11, f12, f13, f14⟩ := aside_run K S wfS pC17 (by rw [x2.1]; exact p21) (fun j hj => by rw [yD, k5]; exact pow4 j hj) ac17.2.1 D17 y8 PC17 PM2 (by rw [e187']; exact u51) (nI k) (nI k)
    have nk1 : ¬ nI k = -1 := fun w => by
      have := congrArg Int32.toInt w
      rw [nI_toInt (by omega), show (-1 : Int32).toInt = -1 from rfl] at this
      omega
    refine ⟨hc', hr', v, u, f1, f2, ?_, ?_, by rw [f5, e187'], (ac4.tr ac17).tr (f6.ac pC17), ⟨f7.trans (x2.1.trans d2.1), fun w w1 w2 => ((d2.2 w (by omega) (by omega)).tr (x2.2 w (by omega))).tr (f8 w w1 w2), fun k k1 k2 => by rw [f9 k k1 k2, e187'], by rw [f10, l187'], fun i hi => ?_, fun i hi => ?_⟩⟩
    · rw [← f3, ← hy]
      have x12 : hR x B 12 = some (B + 174) := by rw [k2 _ _ (by omega)]; exact pc_0_12 pC4
      have x11 : hR x B 11 = some (B + 145) := by rw [k2 _ _ (by omega)]; exact pc_0_11 pC4
      have h48 : hR h4 (B + 13) 8 = some pp := by rw [c3 _ _ (by omega)]; exact m6
      unfold pX12_trialCycles
      simp only [w_tg (st_0 S), w_lt, pc_0_11 m1, pc_0_4 m1, w_nn, w_tg (st_145 S), c1, w_bd, if_neg nk1, pc_0_12 pC4, pc_0_4 pC4, w_tg (st_13 S), h48, w_tg (st_174 S), w_tg m8.1, k1, x11, x12]
    · rw [← f4]
      unfold pX13_cyclesAside
      rw [w_tg (st_187 S), d1', w_bd, if_neg (nI_pos (by omega)), x1, w_bd]
    · by_cases c : i < 246
      · rw [f11 i c, x5 _ (by omega)]
        have := d3 i c
        rw [show 246 * 5 + i = 1230 + i by omega, show 246 * 0 + i = i by omega] at this
        exact this
      · rw [f12 i (by omega)]
        by_cases c2 : i < 22 + 8 * k
        · exfalso; omega
        · rw [x5 i (by omega)]; exact d4 i (by omega)
    · by_cases c : i < 164
      · rw [f13 i c, x3]
        have := d5 i c
        rw [show 164 * 5 + i = 820 + i by omega, show 164 * 0 + i = i by omega] at this
        exact this
      · rw [f14 i (by omega), x3]; exact d6 i (by omega)
end ASD2
