/-! what functions leave as it was (written by wip/whole/frames.py) -/
set_option maxRecDepth 10000 in
set_option maxHeartbeats 2000000 in
theorem pX9_trap_fr {P : Nat → Prop} {g : MT} {h : CT} {this : Nat} {p1 : Int32} {p2 : Int32} {p3 : Int32} {r9 : Int32} {h9 : CT} (hc : Cl P h) (P_this : P this) (hf : pX9_trap g h this p1 p2 p3 = some (r9, h9)) : FrC P [(9, 3), (9, 4), (9, 5)] g h h9 := by
  have F0 : FrC P [(9, 3), (9, 4), (9, 5)] g h h := FrC.rf hc
  unfold pX9_trap at hf
  replace hf := tg_i hf; obtain ⟨t1, hf⟩ := hf
  obtain ⟨r1, e2⟩ : ∃ z, z = (hR h this 5) := ⟨_, rfl⟩; replace hf := lt_i hf r1 e2
  replace hf := nn_i hf; obtain ⟨a1, e3, hf⟩ := hf
  replace hf := tg_i hf; obtain ⟨t4, hf⟩ := hf
  obtain ⟨h3, e5⟩ : ∃ z, z = (sI h a1 3 p1) := ⟨_, rfl⟩; replace hf := lt_i hf h3 e5
  have F6 := FrC.sI F0 ((fun b hb => F0.1 _ _ b P_this (e2.symm.trans hb)) _ e3) t4 (Or.inl (by decide)) e5
  obtain ⟨r4, e7⟩ : ∃ z, z = (hR h3 this 5) := ⟨_, rfl⟩; replace hf := lt_i hf r4 e7
  replace hf := nn_i hf; obtain ⟨a4, e8, hf⟩ := hf
  replace hf := tg_i hf; obtain ⟨t9, hf⟩ := hf
  obtain ⟨h6, e10⟩ : ∃ z, z = (sI h3 a4 4 p2) := ⟨_, rfl⟩; replace hf := lt_i hf h6 e10
  have F11 := FrC.sI F6 ((fun b hb => F6.1 _ _ b P_this (e7.symm.trans hb)) _ e8) t9 (Or.inl (by decide)) e10
  obtain ⟨r7, e12⟩ : ∃ z, z = (hR h6 this 5) := ⟨_, rfl⟩; replace hf := lt_i hf r7 e12
  replace hf := nn_i hf; obtain ⟨a7, e13, hf⟩ := hf
  replace hf := tg_i hf; obtain ⟨t14, hf⟩ := hf
  obtain ⟨h9, e15⟩ : ∃ z, z = (sI h6 a7 5 p3) := ⟨_, rfl⟩; replace hf := lt_i hf h9 e15
  have F16 := FrC.sI F11 ((fun b hb => F11.1 _ _ b P_this (e12.symm.trans hb)) _ e13) t14 (Or.inl (by decide)) e15
  cases hf
  exact F16
set_option maxRecDepth 10000 in
set_option maxHeartbeats 2000000 in
theorem pX9_halve_b146_fr {P : Nat → Prop} {g : MT} {this : Nat} {p1 : Nat} {p2 : Int32} {p3 : Int32} {p4 : Nat} {s0 : Nat} {s1 : Int32} {h : CT} {h0 : CT} {h9 : CT} (t0 : gT g this = 8) (P_this : P this) (P_p1 : P p1) (P_p4 : P p4) (P_s0 : P s0) (F0 : FrC P [(4, 1), (4, 4000), (22, 5000), (24, 1000)] g h0 h) (hf : pX9_halve_b146 g this p1 p2 p3 p4 s0 s1 h = some h9) : FrC P [(4, 1), (4, 4000), (22, 5000), (24, 1000)] g h0 h9 := by
  unfold pX9_halve_b146 at hf
  replace hf := tg_i hf; obtain ⟨t1, hf⟩ := hf
  replace hf := bd_i hf; obtain ⟨h2, q2, hf⟩ := hf
  have F3 := FrC.trans F0 (pX4_setKind_fr F0.1 P_s0 q2) (by decide)
  cases hf
  exact F3
set_option maxRecDepth 10000 in
set_option maxHeartbeats 2000000 in
theorem pX9_halve_b90_fr {P : Nat → Prop} {g : MT} {this : Nat} {p1 : Nat} {p2 : Int32} {p3 : Int32} {p4 : Nat} {k11 : Int32 → CT → Option CT} {k28 : Int32 → Int32 → Int32 → CT → Option CT} {l5 : Int32} {l6 : Int32} {l7 : Int32} {h : CT} {h0 : CT} {h9 : CT} (t0 : gT g this = 8) (P_this : P this) (P_p1 : P p1) (P_p4 : P p4) (hk11 : ∀ (v0 : Int32) (v1 : CT), FrC P [(4, 1), (4, 4000), (22, 5000), (24, 1000)] g h0 v1 → k11 v0 v1 = some h9 → FrC P [(4, 1), (4, 4000), (22, 5000), (24, 1000)] g h0 h9) (hk28 : ∀ (v0 : Int32) (v1 : Int32) (v2 : Int32) (v3 : CT), FrC P [(4, 1), (4, 4000), (22, 5000), (24, 1000)] g h0 v3 → k28 v0 v1 v2 v3 = some h9 → FrC P [(4, 1), (4, 4000), (22, 5000), (24, 1000)] g h0 h9) (F0 : FrC P [(4, 1), (4, 4000), (22, 5000), (24, 1000)] g h0 h) (hf : pX9_halve_b90 g this p1 p2 p3 p4 k11 k28 l5 l6 l7 h = some h9) : FrC P [(4, 1), (4, 4000), (22, 5000), (24, 1000)] g h0 h9 := by
  unfold pX9_halve_b90 at hf
  obtain ⟨r1, e1⟩ : ∃ z, z = (hR h this 1) := ⟨_, rfl⟩; replace hf := lt_i hf r1 e1
  replace hf := nn_i hf; obtain ⟨a1, e2, hf⟩ := hf
  replace hf := tg_i hf; obtain ⟨t3, hf⟩ := hf
  replace hf := bd_i hf; obtain ⟨h3, q4, hf⟩ := hf
  have F5 := FrC.trans F0 (pX8_keep_fr F0.1 ((fun b hb => F0.1 _ _ b P_this (e1.symm.trans hb)) _ e2) P_p4 q4) (by decide)
  obtain ⟨x5, e6⟩ : ∃ z, z = (l7 + 1) := ⟨_, rfl⟩; replace hf := lt_i hf x5 e6
  exact hk28 _ _ _ _ F5 hf
set_option maxRecDepth 10000 in
set_option maxHeartbeats 2000000 in
theorem pX9_halve_b28_fr {P : Nat → Prop} {g : MT} {this : Nat} {p1 : Nat} {p2 : Int32} {p3 : Int32} {p4 : Nat} {k11 : Int32 → CT → Option CT} {k28 : Int32 → Int32 → Int32 → CT → Option CT} {l5 : Int32} {l6 : Int32} {l7 : Int32} {h : CT} {h0 : CT} {h9 : CT} (t0 : gT g this = 8) (P_this : P this) (P_p1 : P p1) (P_p4 : P p4) (hk11 : ∀ (v0 : Int32) (v1 : CT), FrC P [(4, 1), (4, 4000), (22, 5000), (24, 1000)] g h0 v1 → k11 v0 v1 = some h9 → FrC P [(4, 1), (4, 4000), (22, 5000), (24, 1000)] g h0 h9) (hk28 : ∀ (v0 : Int32) (v1 : Int32) (v2 : Int32) (v3 : CT), FrC P [(4, 1), (4, 4000), (22, 5000), (24, 1000)] g h0 v3 → k28 v0 v1 v2 v3 = some h9 → FrC P [(4, 1), (4, 4000), (22, 5000), (24, 1000)] g h0 h9) (F0 : FrC P [(4, 1), (4, 4000), (22, 5000), (24, 1000)] g h0 h) (hf : pX9_halve_b28 g this p1 p2 p3 p4 k11 k28 l5 l6 l7 h = some h9) : FrC P [(4, 1), (4, 4000), (22, 5000), (24, 1000)] g h0 h9 := by
  unfold pX9_halve_b28 at hf
  by_cases c1 : (l5 - l6) ≤ l7
  · rw [if_pos c1] at hf
    obtain ⟨x2, e2⟩ : ∃ z, z = ((l5 + 1) / 2) := ⟨_, rfl⟩; replace hf := lt_i hf x2 e2
    exact hk11 _ _ F0 hf
  · rw [if_neg c1] at hf
    obtain ⟨r3, e3⟩ : ∃ z, z = (hR h this 1) := ⟨_, rfl⟩; replace hf := lt_i hf r3 e3
    replace hf := nn_i hf; obtain ⟨a3, e4, hf⟩ := hf
    replace hf := tg_i hf; obtain ⟨t5, hf⟩ := hf
    replace hf := bd_i hf; obtain ⟨h5, q6, hf⟩ := hf
    have F7 := FrC.trans F0 (pX8_fetch_fr F0.1 ((fun b hb => F0.1 _ _ b P_this (e3.symm.trans hb)) _ e4) P_p4 q6) (by decide)
    obtain ⟨r7, e8⟩ : ∃ z, z = (hR h5 this 1) := ⟨_, rfl⟩; replace hf := lt_i hf r7 e8
    obtain ⟨r8, e9⟩ : ∃ z, z = (hR h5 this 3) := ⟨_, rfl⟩; replace hf := lt_i hf r8 e9
    replace hf := nn_i hf; obtain ⟨a7, e10, hf⟩ := hf
    replace hf := tg_i hf; obtain ⟨t11, hf⟩ := hf
    replace hf := nn_i hf; obtain ⟨a8, e12, hf⟩ := hf
    replace hf := bd_i hf; obtain ⟨h10, q13, hf⟩ := hf
    have F14 := FrC.trans F7 (pX8_fetch_fr F7.1 ((fun b hb => F7.1 _ _ b P_this (e8.symm.trans hb)) _ e10) ((fun b hb => F7.1 _ _ b P_this (e9.symm.trans hb)) _ e12) q13) (by decide)
    by_cases c15 : p3 = 0
    · rw [if_pos c15] at hf
      obtain ⟨r13, e16⟩ : ∃ z, z = (hR h10 this 3) := ⟨_, rfl⟩; replace hf := lt_i hf r13 e16
      replace hf := tg_i hf; obtain ⟨t17, hf⟩ := hf
      replace hf := nn_i hf; obtain ⟨a13, e18, hf⟩ := hf
      replace hf := bd_i hf; obtain ⟨h15, q19, hf⟩ := hf
      have F20 := FrC.trans F14 (pX4_plus_fr F14.1 P_p4 ((fun b hb => F14.1 _ _ b P_this (e16.symm.trans hb)) _ e18) q19) (by decide)
      exact pX9_halve_b90_fr t0 P_this P_p1 P_p4 hk11 hk28 F20 hf
    · rw [if_neg c15] at hf
      obtain ⟨r17, e21⟩ : ∃ z, z = (hR h10 this 3) := ⟨_, rfl⟩; replace hf := lt_i hf r17 e21
      replace hf := tg_i hf; obtain ⟨t22, hf⟩ := hf
      replace hf := nn_i hf; obtain ⟨a17, e23, hf⟩ := hf
      replace hf := bd_i hf; obtain ⟨h19, q24, hf⟩ := hf
      have F25 := FrC.trans F14 (pX4_most_fr F14.1 P_p4 ((fun b hb => F14.1 _ _ b P_this (e21.symm.trans hb)) _ e23) q24) (by decide)
      exact pX9_halve_b90_fr t0 P_this P_p1 P_p4 hk11 hk28 F25 hf
set_option maxRecDepth 10000 in
set_option maxHeartbeats 2000000 in
theorem pX9_halve_l28_fr {P : Nat → Prop} {g : MT} {this : Nat} {p1 : Nat} {p2 : Int32} {p3 : Int32} {p4 : Nat} {k11 : Int32 → CT → Option CT} {h0 : CT} {h9 : CT} (t0 : gT g this = 8) (P_this : P this) (P_p1 : P p1) (P_p4 : P p4) (hk11 : ∀ (v0 : Int32) (v1 : CT), FrC P [(4, 1), (4, 4000), (22, 5000), (24, 1000)] g h0 v1 → k11 v0 v1 = some h9 → FrC P [(4, 1), (4, 4000), (22, 5000), (24, 1000)] g h0 h9) : ∀ (n : Nat) (v1 : Int32) (v2 : Int32) (v3 : Int32) (v4 : CT), FrC P [(4, 1), (4, 4000), (22, 5000), (24, 1000)] g h0 v4 → pX9_halve_l28 g this p1 p2 p3 p4 k11 n v1 v2 v3 v4 = some h9 → FrC P [(4, 1), (4, 4000), (22, 5000), (24, 1000)] g h0 h9 := by
  intro n
  induction n with
  | zero => intro v1 v2 v3 v4 F0 hf; cases hf
  | succ n ih => intro v1 v2 v3 v4 F0 hf; exact pX9_halve_b28_fr t0 P_this P_p1 P_p4 hk11 ih F0 hf
set_option maxRecDepth 10000 in
set_option maxHeartbeats 2000000 in
theorem pX9_halve_b11_fr {P : Nat → Prop} {g : MT} {this : Nat} {p1 : Nat} {p2 : Int32} {p3 : Int32} {p4 : Nat} {k11 : Int32 → CT → Option CT} {l5 : Int32} {h : CT} {h0 : CT} {h9 : CT} (t0 : gT g this = 8) (P_this : P this) (P_p1 : P p1) (P_p4 : P p4) (hk11 : ∀ (v0 : Int32) (v1 : CT), FrC P [(4, 1), (4, 4000), (22, 5000), (24, 1000)] g h0 v1 → k11 v0 v1 = some h9 → FrC P [(4, 1), (4, 4000), (22, 5000), (24, 1000)] g h0 h9) (F0 : FrC P [(4, 1), (4, 4000), (22, 5000), (24, 1000)] g h0 h) (hf : pX9_halve_b11 g this p1 p2 p3 p4 k11 l5 h = some h9) : FrC P [(4, 1), (4, 4000), (22, 5000), (24, 1000)] g h0 h9 := by
  unfold pX9_halve_b11 at hf
  by_cases c1 : l5 ≤ 1
  · rw [if_pos c1] at hf
    by_cases c2 : p2 ≤ 0
    · rw [if_pos c2] at hf
      by_cases c3 : p3 = 0
      · rw [if_pos c3] at hf
        exact pX9_halve_b146_fr t0 P_this P_p1 P_p4 P_p4 F0 hf
      · rw [if_neg c3] at hf
        exact pX9_halve_b146_fr t0 P_this P_p1 P_p4 P_p4 F0 hf
    · rw [if_neg c2] at hf
      obtain ⟨r4, e4⟩ : ∃ z, z = (hR h this 1) := ⟨_, rfl⟩; replace hf := lt_i hf r4 e4
      replace hf := nn_i hf; obtain ⟨a4, e5, hf⟩ := hf
      replace hf := tg_i hf; obtain ⟨t6, hf⟩ := hf
      replace hf := bd_i hf; obtain ⟨h6, q7, hf⟩ := hf
      have F8 := FrC.trans F0 (pX8_fetch_fr F0.1 ((fun b hb => F0.1 _ _ b P_this (e4.symm.trans hb)) _ e5) P_p4 q7) (by decide)
      cases hf
      exact F8
  · rw [if_neg c1] at hf
    obtain ⟨x8, e9⟩ : ∃ z, z = ((l5 + 1) / 2) := ⟨_, rfl⟩; replace hf := lt_i hf x8 e9
    exact pX9_halve_l28_fr t0 P_this P_p1 P_p4 hk11 _ _ _ _ _ F0 hf
set_option maxRecDepth 10000 in
set_option maxHeartbeats 2000000 in
theorem pX9_halve_l11_fr {P : Nat → Prop} {g : MT} {this : Nat} {p1 : Nat} {p2 : Int32} {p3 : Int32} {p4 : Nat} {h0 : CT} {h9 : CT} (t0 : gT g this = 8) (P_this : P this) (P_p1 : P p1) (P_p4 : P p4) : ∀ (n : Nat) (v1 : Int32) (v2 : CT), FrC P [(4, 1), (4, 4000), (22, 5000), (24, 1000)] g h0 v2 → pX9_halve_l11 g this p1 p2 p3 p4 n v1 v2 = some h9 → FrC P [(4, 1), (4, 4000), (22, 5000), (24, 1000)] g h0 h9 := by
  intro n
  induction n with
  | zero => intro v1 v2 F0 hf; cases hf
  | succ n ih => intro v1 v2 F0 hf; exact pX9_halve_b11_fr t0 P_this P_p1 P_p4 ih F0 hf
set_option maxRecDepth 10000 in
set_option maxHeartbeats 2000000 in
theorem pX9_halve_fr {P : Nat → Prop} {g : MT} {h : CT} {this : Nat} {p1 : Nat} {p2 : Int32} {p3 : Int32} {p4 : Nat} {h9 : CT} (hc : Cl P h) (P_this : P this) (P_p1 : P p1) (P_p4 : P p4) (hf : pX9_halve g h this p1 p2 p3 p4 = some h9) : FrC P [(4, 1), (4, 4000), (22, 5000), (24, 1000)] g h h9 := by
  have F0 : FrC P [(4, 1), (4, 4000), (22, 5000), (24, 1000)] g h h := FrC.rf hc
  unfold pX9_halve at hf
  replace hf := tg_i hf; obtain ⟨t1, hf⟩ := hf
  obtain ⟨r1, e2⟩ : ∃ z, z = (hR h this 1) := ⟨_, rfl⟩; replace hf := lt_i hf r1 e2
  replace hf := nn_i hf; obtain ⟨a1, e3, hf⟩ := hf
  replace hf := tg_i hf; obtain ⟨t4, hf⟩ := hf
  replace hf := bd_i hf; obtain ⟨h3, q5, hf⟩ := hf
  have F6 := FrC.trans F0 (pX8_copyFrom_fr F0.1 ((fun b hb => F0.1 _ _ b P_this (e2.symm.trans hb)) _ e3) P_p1 q5) (by decide)
  exact pX9_halve_l11_fr t1 P_this P_p1 P_p4 _ _ _ F6 hf
set_option maxRecDepth 10000 in
set_option maxHeartbeats 2000000 in
theorem pX9_addUp_b52_fr {P : Nat → Prop} {g : MT} {this : Nat} {p1 : Nat} {p2 : Int32} {p3 : Int32} {p4 : Nat} {k30 : Int32 → CT → Option CT} {l5 : Int32} {s0 : Nat} {s1 : Int32} {h : CT} {h0 : CT} {h9 : CT} (t0 : gT g this = 8) (P_this : P this) (P_p1 : P p1) (P_p4 : P p4) (hk30 : ∀ (v0 : Int32) (v1 : CT), FrC P [(4, 1), (4, 4000)] g h0 v1 → k30 v0 v1 = some h9 → FrC P [(4, 1), (4, 4000)] g h0 h9) (P_s0 : P s0) (F0 : FrC P [(4, 1), (4, 4000)] g h0 h) (hf : pX9_addUp_b52 g this p1 p2 p3 p4 k30 l5 s0 s1 h = some h9) : FrC P [(4, 1), (4, 4000)] g h0 h9 := by
  unfold pX9_addUp_b52 at hf
  obtain ⟨r1, e1⟩ : ∃ z, z = (hR h this 3) := ⟨_, rfl⟩; replace hf := lt_i hf r1 e1
  replace hf := tg_i hf; obtain ⟨t2, hf⟩ := hf
  replace hf := nn_i hf; obtain ⟨a1, e3, hf⟩ := hf
  replace hf := bd_i hf; obtain ⟨h3, q4, hf⟩ := hf
  have F5 := FrC.trans F0 (pX8_fetch_fr F0.1 P_s0 ((fun b hb => F0.1 _ _ b P_this (e1.symm.trans hb)) _ e3) q4) (by decide)
  obtain ⟨r5, e6⟩ : ∃ z, z = (hR h3 this 3) := ⟨_, rfl⟩; replace hf := lt_i hf r5 e6
  replace hf := tg_i hf; obtain ⟨t7, hf⟩ := hf
  replace hf := nn_i hf; obtain ⟨a5, e8, hf⟩ := hf
  replace hf := bd_i hf; obtain ⟨h7, q9, hf⟩ := hf
  have F10 := FrC.trans F5 (pX4_plus_fr F5.1 P_p4 ((fun b hb => F5.1 _ _ b P_this (e6.symm.trans hb)) _ e8) q9) (by decide)
  obtain ⟨x9, e11⟩ : ∃ z, z = (l5 + 1) := ⟨_, rfl⟩; replace hf := lt_i hf x9 e11
  exact hk30 _ _ F10 hf
set_option maxRecDepth 10000 in
set_option maxHeartbeats 2000000 in
theorem pX9_addUp_b30_fr {P : Nat → Prop} {g : MT} {this : Nat} {p1 : Nat} {p2 : Int32} {p3 : Int32} {p4 : Nat} {k30 : Int32 → CT → Option CT} {l5 : Int32} {h : CT} {h0 : CT} {h9 : CT} (t0 : gT g this = 8) (P_this : P this) (P_p1 : P p1) (P_p4 : P p4) (hk30 : ∀ (v0 : Int32) (v1 : CT), FrC P [(4, 1), (4, 4000)] g h0 v1 → k30 v0 v1 = some h9 → FrC P [(4, 1), (4, 4000)] g h0 h9) (F0 : FrC P [(4, 1), (4, 4000)] g h0 h) (hf : pX9_addUp_b30 g this p1 p2 p3 p4 k30 l5 h = some h9) : FrC P [(4, 1), (4, 4000)] g h0 h9 := by
  unfold pX9_addUp_b30 at hf
  by_cases c1 : p2 ≤ l5
  · rw [if_pos c1] at hf
    cases hf
    exact F0
  · rw [if_neg c1] at hf
    by_cases c2 : p3 = 0
    · rw [if_pos c2] at hf
      exact pX9_addUp_b52_fr t0 P_this P_p1 P_p4 hk30 P_p1 F0 hf
    · rw [if_neg c2] at hf
      exact pX9_addUp_b52_fr t0 P_this P_p1 P_p4 hk30 P_p1 F0 hf
set_option maxRecDepth 10000 in
set_option maxHeartbeats 2000000 in
theorem pX9_addUp_l30_fr {P : Nat → Prop} {g : MT} {this : Nat} {p1 : Nat} {p2 : Int32} {p3 : Int32} {p4 : Nat} {h0 : CT} {h9 : CT} (t0 : gT g this = 8) (P_this : P this) (P_p1 : P p1) (P_p4 : P p4) : ∀ (n : Nat) (v1 : Int32) (v2 : CT), FrC P [(4, 1), (4, 4000)] g h0 v2 → pX9_addUp_l30 g this p1 p2 p3 p4 n v1 v2 = some h9 → FrC P [(4, 1), (4, 4000)] g h0 h9 := by
  intro n
  induction n with
  | zero => intro v1 v2 F0 hf; cases hf
  | succ n ih => intro v1 v2 F0 hf; exact pX9_addUp_b30_fr t0 P_this P_p1 P_p4 ih F0 hf
set_option maxRecDepth 10000 in
set_option maxHeartbeats 2000000 in
theorem pX9_addUp_b27_fr {P : Nat → Prop} {g : MT} {this : Nat} {p1 : Nat} {p2 : Int32} {p3 : Int32} {p4 : Nat} {h : CT} {h0 : CT} {h9 : CT} (t0 : gT g this = 8) (P_this : P this) (P_p1 : P p1) (P_p4 : P p4) (F0 : FrC P [(4, 1), (4, 4000)] g h0 h) (hf : pX9_addUp_b27 g this p1 p2 p3 p4 h = some h9) : FrC P [(4, 1), (4, 4000)] g h0 h9 := by
  unfold pX9_addUp_b27 at hf
  exact pX9_addUp_l30_fr t0 P_this P_p1 P_p4 _ _ _ F0 hf
set_option maxRecDepth 10000 in
set_option maxHeartbeats 2000000 in
theorem pX9_addUp_b22_fr {P : Nat → Prop} {g : MT} {this : Nat} {p1 : Nat} {p2 : Int32} {p3 : Int32} {p4 : Nat} {s0 : Nat} {s1 : Int32} {h : CT} {h0 : CT} {h9 : CT} (t0 : gT g this = 8) (P_this : P this) (P_p1 : P p1) (P_p4 : P p4) (P_s0 : P s0) (F0 : FrC P [(4, 1), (4, 4000)] g h0 h) (hf : pX9_addUp_b22 g this p1 p2 p3 p4 s0 s1 h = some h9) : FrC P [(4, 1), (4, 4000)] g h0 h9 := by
  unfold pX9_addUp_b22 at hf
  replace hf := tg_i hf; obtain ⟨t1, hf⟩ := hf
  replace hf := bd_i hf; obtain ⟨h2, q2, hf⟩ := hf
  have F3 := FrC.trans F0 (pX8_fetch_fr F0.1 P_s0 P_p4 q2) (by decide)
  exact pX9_addUp_b27_fr t0 P_this P_p1 P_p4 F3 hf
set_option maxRecDepth 10000 in
set_option maxHeartbeats 2000000 in
theorem pX9_addUp_fr {P : Nat → Prop} {g : MT} {h : CT} {this : Nat} {p1 : Nat} {p2 : Int32} {p3 : Int32} {p4 : Nat} {h9 : CT} (hc : Cl P h) (P_this : P this) (P_p1 : P p1) (P_p4 : P p4) (hf : pX9_addUp g h this p1 p2 p3 p4 = some h9) : FrC P [(4, 1), (4, 4000)] g h h9 := by
  have F0 : FrC P [(4, 1), (4, 4000)] g h h := FrC.rf hc
  unfold pX9_addUp at hf
  replace hf := tg_i hf; obtain ⟨t1, hf⟩ := hf
  replace hf := tg_i hf; obtain ⟨t2, hf⟩ := hf
  replace hf := bd_i hf; obtain ⟨h2, q3, hf⟩ := hf
  have F4 := FrC.trans F0 (pX4_setKind_fr F0.1 P_p4 q3) (by decide)
  by_cases c5 : p2 ≤ 0
  · rw [if_pos c5] at hf
    exact pX9_addUp_b27_fr t1 P_this P_p1 P_p4 F4 hf
  · rw [if_neg c5] at hf
    by_cases c6 : p3 = 0
    · rw [if_pos c6] at hf
      exact pX9_addUp_b22_fr t1 P_this P_p1 P_p4 P_p1 F4 hf
    · rw [if_neg c6] at hf
      exact pX9_addUp_b22_fr t1 P_this P_p1 P_p4 P_p1 F4 hf
set_option maxRecDepth 10000 in
set_option maxHeartbeats 2000000 in
theorem pX9_offsetFits_fr {P : Nat → Prop} {g : MT} {h : CT} {this : Nat} {p1 : Nat} {p2 : Int32} {r9 : Int32} {h9 : CT} (hc : Cl P h) (P_this : P this) (P_p1 : P p1) (hf : pX9_offsetFits g h this p1 p2 = some (r9, h9)) : FrC P [(4, 1), (4, 4000)] g h h9 := by
  have F0 : FrC P [(4, 1), (4, 4000)] g h h := FrC.rf hc
  unfold pX9_offsetFits at hf
  replace hf := tg_i hf; obtain ⟨t1, hf⟩ := hf
  obtain ⟨r1, e2⟩ : ∃ z, z = (hR h this 4) := ⟨_, rfl⟩; replace hf := lt_i hf r1 e2
  replace hf := tg_i hf; obtain ⟨t3, hf⟩ := hf
  obtain ⟨r3, e4⟩ : ∃ z, z = (hR h this 3) := ⟨_, rfl⟩; replace hf := lt_i hf r3 e4
  replace hf := nn_i hf; obtain ⟨a1, e5, hf⟩ := hf
  replace hf := tg_i hf; obtain ⟨t6, hf⟩ := hf
  replace hf := nn_i hf; obtain ⟨a3, e7, hf⟩ := hf
  replace hf := bd_i hf; obtain ⟨h5, q8, hf⟩ := hf
  have F9 := FrC.trans F0 (pX3_fetch_fr F0.1 ((fun b hb => F0.1 _ _ b P_this (e2.symm.trans hb)) _ e5) ((fun b hb => F0.1 _ _ b P_this (e4.symm.trans hb)) _ e7) q8) (by decide)
  obtain ⟨r7, e10⟩ : ∃ z, z = (hR h5 this 3) := ⟨_, rfl⟩; replace hf := lt_i hf r7 e10
  replace hf := nn_i hf; obtain ⟨a7, e11, hf⟩ := hf
  replace hf := tg_i hf; obtain ⟨t12, hf⟩ := hf
  replace hf := bd_i hf; obtain ⟨x9, q13, hf⟩ := hf
  replace hf := (bz_i hf).2
  cases hf
  exact F9
set_option maxRecDepth 10000 in
set_option maxHeartbeats 2000000 in
theorem pX9_placeOf_fr {P : Nat → Prop} {E : EC} {g : MT} {h : CT} {this : Nat} {p1 : Nat} {p2 : Int32} {r9 : Int32} {h9 : CT} (PE : PEc P E) (hc : Cl P h) (P_this : P this) (P_p1 : P p1) (hf : pX9_placeOf E g h this p1 p2 = some (r9, h9)) : FrC P [(4, 1), (4, 4000)] g h h9 := by
  have F0 : FrC P [(4, 1), (4, 4000)] g h h := FrC.rf hc
  unfold pX9_placeOf at hf
  replace hf := tg_i hf; obtain ⟨t1, hf⟩ := hf
  replace hf := tg_i hf; obtain ⟨t2, hf⟩ := hf
  obtain ⟨r2, e3⟩ : ∃ z, z = (hR h p1 0) := ⟨_, rfl⟩; replace hf := lt_i hf r2 e3
  replace hf := nn_i hf; obtain ⟨a2, e4, hf⟩ := hf
  replace hf := tg_i hf; obtain ⟨t5, hf⟩ := hf
  replace hf := bd_i hf; obtain ⟨x4, q6, hf⟩ := hf
  by_cases c7 : x4 = 0
  · rw [if_pos c7] at hf
    cases hf
    exact F0
  · rw [if_neg c7] at hf
    obtain ⟨r7, e8⟩ : ∃ z, z = (hR h this 4) := ⟨_, rfl⟩; replace hf := lt_i hf r7 e8
    obtain ⟨r8, e9⟩ : ∃ z, z = (hR h this 3) := ⟨_, rfl⟩; replace hf := lt_i hf r8 e9
    replace hf := nn_i hf; obtain ⟨a7, e10, hf⟩ := hf
    replace hf := tg_i hf; obtain ⟨t11, hf⟩ := hf
    replace hf := nn_i hf; obtain ⟨a8, e12, hf⟩ := hf
    replace hf := bd_i hf; obtain ⟨h10, q13, hf⟩ := hf
    have F14 := FrC.trans F0 (pX3_fetch_fr F0.1 ((fun b hb => F0.1 _ _ b P_this (e8.symm.trans hb)) _ e10) ((fun b hb => F0.1 _ _ b P_this (e9.symm.trans hb)) _ e12) q13) (by decide)
    obtain ⟨r12, e15⟩ : ∃ z, z = (hR h10 this 3) := ⟨_, rfl⟩; replace hf := lt_i hf r12 e15
    replace hf := nn_i hf; obtain ⟨a12, e16, hf⟩ := hf
    replace hf := tg_i hf; obtain ⟨t17, hf⟩ := hf
    replace hf := bd_i hf; obtain ⟨x14, q18, hf⟩ := hf
    cases hf
    exact F14
set_option maxRecDepth 10000 in
set_option maxHeartbeats 2000000 in
theorem pX9_holds_fr {P : Nat → Prop} {E : EC} {g : MT} {h : CT} {this : Nat} {p1 : Nat} {p2 : Int32} {r9 : Int32} {h9 : CT} (PE : PEc P E) (hc : Cl P h) (P_this : P this) (P_p1 : P p1) (hf : pX9_holds E g h this p1 p2 = some (r9, h9)) : FrC P [(4, 1), (4, 4000)] g h h9 := by
  have F0 : FrC P [(4, 1), (4, 4000)] g h h := FrC.rf hc
  unfold pX9_holds at hf
  replace hf := tg_i hf; obtain ⟨t1, hf⟩ := hf
  obtain ⟨r1, e2⟩ : ∃ z, z = (hR h this 4) := ⟨_, rfl⟩; replace hf := lt_i hf r1 e2
  replace hf := tg_i hf; obtain ⟨t3, hf⟩ := hf
  obtain ⟨r3, e4⟩ : ∃ z, z = (hR h this 2) := ⟨_, rfl⟩; replace hf := lt_i hf r3 e4
  replace hf := nn_i hf; obtain ⟨a1, e5, hf⟩ := hf
  replace hf := tg_i hf; obtain ⟨t6, hf⟩ := hf
  replace hf := nn_i hf; obtain ⟨a3, e7, hf⟩ := hf
  replace hf := bd_i hf; obtain ⟨h5, q8, hf⟩ := hf
  have F9 := FrC.trans F0 (pX3_fetch_fr F0.1 ((fun b hb => F0.1 _ _ b P_this (e2.symm.trans hb)) _ e5) ((fun b hb => F0.1 _ _ b P_this (e4.symm.trans hb)) _ e7) q8) (by decide)
  obtain ⟨r7, e10⟩ : ∃ z, z = (hR h5 p1 0) := ⟨_, rfl⟩; replace hf := lt_i hf r7 e10
  replace hf := kR_i hf; obtain ⟨a8, e11, hf⟩ := hf
  by_cases c12 : r7 = (some a8)
  · rw [if_pos c12] at hf
    obtain ⟨r30, e13⟩ : ∃ z, z = (hR h5 this 2) := ⟨_, rfl⟩; replace hf := lt_i hf r30 e13
    replace hf := nn_i hf; obtain ⟨a30, e14, hf⟩ := hf
    replace hf := tg_i hf; obtain ⟨t15, hf⟩ := hf
    replace hf := (bz_i hf).2
    cases hf
    exact F9
  · rw [if_neg c12] at hf
    obtain ⟨r10, e16⟩ : ∃ z, z = (hR h5 this 4) := ⟨_, rfl⟩; replace hf := lt_i hf r10 e16
    obtain ⟨r11, e17⟩ : ∃ z, z = (hR h5 this 3) := ⟨_, rfl⟩; replace hf := lt_i hf r11 e17
    replace hf := nn_i hf; obtain ⟨a10, e18, hf⟩ := hf
    replace hf := tg_i hf; obtain ⟨t19, hf⟩ := hf
    replace hf := nn_i hf; obtain ⟨a11, e20, hf⟩ := hf
    replace hf := bd_i hf; obtain ⟨h13, q21, hf⟩ := hf
    have F22 := FrC.trans F9 (pX3_fetch_fr F9.1 ((fun b hb => F9.1 _ _ b P_this (e16.symm.trans hb)) _ e18) ((fun b hb => F9.1 _ _ b P_this (e17.symm.trans hb)) _ e20) q21) (by decide)
    obtain ⟨r15, e23⟩ : ∃ z, z = (hR h13 p1 0) := ⟨_, rfl⟩; replace hf := lt_i hf r15 e23
    replace hf := kR_i hf; obtain ⟨a16, e24, hf⟩ := hf
    by_cases c25 : r15 = (some a16)
    · rw [if_pos c25] at hf
      obtain ⟨r24, e26⟩ : ∃ z, z = (hR h13 this 2) := ⟨_, rfl⟩; replace hf := lt_i hf r24 e26
      obtain ⟨r25, e27⟩ : ∃ z, z = (hR h13 this 3) := ⟨_, rfl⟩; replace hf := lt_i hf r25 e27
      replace hf := nn_i hf; obtain ⟨a24, e28, hf⟩ := hf
      replace hf := tg_i hf; obtain ⟨t29, hf⟩ := hf
      replace hf := nn_i hf; obtain ⟨a25, e30, hf⟩ := hf
      replace hf := bd_i hf; obtain ⟨x27, q31, hf⟩ := hf
      replace hf := (bz_i hf).2
      cases hf
      exact F22
    · rw [if_neg c25] at hf
      obtain ⟨r18, e32⟩ : ∃ z, z = (hR h13 this 2) := ⟨_, rfl⟩; replace hf := lt_i hf r18 e32
      obtain ⟨r19, e33⟩ : ∃ z, z = (hR h13 this 3) := ⟨_, rfl⟩; replace hf := lt_i hf r19 e33
      replace hf := nn_i hf; obtain ⟨a18, e34, hf⟩ := hf
      replace hf := tg_i hf; obtain ⟨t35, hf⟩ := hf
      replace hf := nn_i hf; obtain ⟨a19, e36, hf⟩ := hf
      replace hf := bd_i hf; obtain ⟨x21, q37, hf⟩ := hf
      replace hf := (bz_i hf).2
      cases hf
      exact F22
set_option maxRecDepth 10000 in
set_option maxHeartbeats 2000000 in
theorem pX9_packElement_fr {P : Nat → Prop} {g : MT} {h : CT} {this : Nat} {p1 : Nat} {p2 : Int32} {h9 : CT} (hc : Cl P h) (P_this : P this) (P_p1 : P p1) (hf : pX9_packElement g h this p1 p2 = some h9) : FrC P [(4, 1), (4, 4000), (8, 10), (22, 5000), (24, 1000)] g h h9 := by
  have F0 : FrC P [(4, 1), (4, 4000), (8, 10), (22, 5000), (24, 1000)] g h h := FrC.rf hc
  unfold pX9_packElement at hf
  replace hf := tg_i hf; obtain ⟨t1, hf⟩ := hf
  obtain ⟨r1, e2⟩ : ∃ z, z = (hR h this 4) := ⟨_, rfl⟩; replace hf := lt_i hf r1 e2
  replace hf := nn_i hf; obtain ⟨a1, e3, hf⟩ := hf
  replace hf := tg_i hf; obtain ⟨t4, hf⟩ := hf
  replace hf := bd_i hf; obtain ⟨x3, q5, hf⟩ := hf
  by_cases c6 : x3 = 0
  · rw [if_pos c6] at hf
    cases hf
    exact F0
  · rw [if_neg c6] at hf
    obtain ⟨r6, e7⟩ : ∃ z, z = (hR h this 4) := ⟨_, rfl⟩; replace hf := lt_i hf r6 e7
    replace hf := tg_i hf; obtain ⟨t8, hf⟩ := hf
    obtain ⟨r8, e9⟩ : ∃ z, z = (hR h this 2) := ⟨_, rfl⟩; replace hf := lt_i hf r8 e9
    replace hf := nn_i hf; obtain ⟨a6, e10, hf⟩ := hf
    replace hf := tg_i hf; obtain ⟨t11, hf⟩ := hf
    replace hf := nn_i hf; obtain ⟨a8, e12, hf⟩ := hf
    replace hf := bd_i hf; obtain ⟨h10, q13, hf⟩ := hf
    have F14 := FrC.trans F0 (pX3_fetch_fr F0.1 ((fun b hb => F0.1 _ _ b P_this (e7.symm.trans hb)) _ e10) ((fun b hb => F0.1 _ _ b P_this (e9.symm.trans hb)) _ e12) q13) (by decide)
    obtain ⟨r12, e15⟩ : ∃ z, z = (hR h10 this 4) := ⟨_, rfl⟩; replace hf := lt_i hf r12 e15
    obtain ⟨r13, e16⟩ : ∃ z, z = (hR h10 this 2) := ⟨_, rfl⟩; replace hf := lt_i hf r13 e16
    replace hf := nn_i hf; obtain ⟨a12, e17, hf⟩ := hf
    replace hf := tg_i hf; obtain ⟨t18, hf⟩ := hf
    replace hf := nn_i hf; obtain ⟨a13, e19, hf⟩ := hf
    replace hf := bd_i hf; obtain ⟨h15, q20, hf⟩ := hf
    have F21 := FrC.trans F14 (pX3_land_fr F14.1 ((fun b hb => F14.1 _ _ b P_this (e15.symm.trans hb)) _ e17) ((fun b hb => F14.1 _ _ b P_this (e16.symm.trans hb)) _ e19) q20) (by decide)
    obtain ⟨h17, e22⟩ : ∃ z, z = (sI h15 this 10 ((hI h15 this 10) + 1)) := ⟨_, rfl⟩; replace hf := lt_i hf h17 e22
    have F23 := FrC.sI F21 P_this t1 (Or.inl (by decide)) e22
    cases hf
    exact F23
set_option maxRecDepth 10000 in
set_option maxHeartbeats 2000000 in
theorem pX9_reckon_b55_fr {P : Nat → Prop} {E : EC} {g : MT} {this : Nat} {p1 : Nat} {p2 : Int32} {p3 : Int32} {h : CT} {h0 : CT} {h9 : CT} (t0 : gT g this = 8) (PE : PEc P E) (P_this : P this) (P_p1 : P p1) (F0 : FrC P [(1, 4), (1, 2003), (4, 1), (4, 4000)] g h0 h) (hf : pX9_reckon_b55 E g this p1 p2 p3 h = some h9) : FrC P [(1, 4), (1, 2003), (4, 1), (4, 4000)] g h0 h9 := by
  unfold pX9_reckon_b55 at hf
  replace hf := kR_i hf; obtain ⟨a1, e1, hf⟩ := hf
  replace hf := tg_i hf; obtain ⟨t2, hf⟩ := hf
  obtain ⟨r3, e3⟩ : ∃ z, z = (hR h p1 0) := ⟨_, rfl⟩; replace hf := lt_i hf r3 e3
  replace hf := nn_i hf; obtain ⟨a3, e4, hf⟩ := hf
  replace hf := tg_i hf; obtain ⟨t5, hf⟩ := hf
  replace hf := bd_i hf; obtain ⟨x5, q6, hf⟩ := hf
  replace hf := tg_i hf; obtain ⟨t7, hf⟩ := hf
  replace hf := (ix_i hf).2
  obtain ⟨x9, e8⟩ : ∃ z, z = (hI E.2.1 a1 (Int32.toNatClampNeg x5)) := ⟨_, rfl⟩; replace hf := lt_i hf x9 e8
  by_cases c9 : x9 = 6
  · rw [if_pos c9] at hf
    obtain ⟨r11, e10⟩ : ∃ z, z = (hR h this 2) := ⟨_, rfl⟩; replace hf := lt_i hf r11 e10
    replace hf := nn_i hf; obtain ⟨a11, e11, hf⟩ := hf
    replace hf := tg_i hf; obtain ⟨t12, hf⟩ := hf
    replace hf := bd_i hf; obtain ⟨h13, q13, hf⟩ := hf
    have F14 := FrC.trans F0 (pX4_set_fr F0.1 ((fun b hb => F0.1 _ _ b P_this (e10.symm.trans hb)) _ e11) q13) (by decide)
    cases hf
    exact F14
  · rw [if_neg c9] at hf
    by_cases c15 : x9 = 7
    · rw [if_pos c15] at hf
      obtain ⟨r16, e16⟩ : ∃ z, z = (hR h this 4) := ⟨_, rfl⟩; replace hf := lt_i hf r16 e16
      replace hf := nn_i hf; obtain ⟨a16, e17, hf⟩ := hf
      replace hf := tg_i hf; obtain ⟨t18, hf⟩ := hf
      obtain ⟨r18, e19⟩ : ∃ z, z = (hR h a16 2) := ⟨_, rfl⟩; replace hf := lt_i hf r18 e19
      obtain ⟨r19, e20⟩ : ∃ z, z = (hR h this 2) := ⟨_, rfl⟩; replace hf := lt_i hf r19 e20
      replace hf := nn_i hf; obtain ⟨a18, e21, hf⟩ := hf
      replace hf := tg_i hf; obtain ⟨t22, hf⟩ := hf
      replace hf := nn_i hf; obtain ⟨a19, e23, hf⟩ := hf
      replace hf := bd_i hf; obtain ⟨h21, q24, hf⟩ := hf
      have F25 := FrC.trans F0 (pX8_fetch_fr F0.1 ((fun b hb => F0.1 _ _ b ((fun b hb => F0.1 _ _ b P_this (e16.symm.trans hb)) _ e17) (e19.symm.trans hb)) _ e21) ((fun b hb => F0.1 _ _ b P_this (e20.symm.trans hb)) _ e23) q24) (by decide)
      cases hf
      exact F25
    · rw [if_neg c15] at hf
      by_cases c26 : x9 = 8
      · rw [if_pos c26] at hf
        obtain ⟨r24, e27⟩ : ∃ z, z = (hR h this 4) := ⟨_, rfl⟩; replace hf := lt_i hf r24 e27
        replace hf := nn_i hf; obtain ⟨a24, e28, hf⟩ := hf
        replace hf := tg_i hf; obtain ⟨t29, hf⟩ := hf
        obtain ⟨r26, e30⟩ : ∃ z, z = (hR h a24 3) := ⟨_, rfl⟩; replace hf := lt_i hf r26 e30
        obtain ⟨r27, e31⟩ : ∃ z, z = (hR h this 2) := ⟨_, rfl⟩; replace hf := lt_i hf r27 e31
        replace hf := nn_i hf; obtain ⟨a26, e32, hf⟩ := hf
        replace hf := tg_i hf; obtain ⟨t33, hf⟩ := hf
        replace hf := nn_i hf; obtain ⟨a27, e34, hf⟩ := hf
        replace hf := bd_i hf; obtain ⟨h29, q35, hf⟩ := hf
        have F36 := FrC.trans F0 (pX8_fetch_fr F0.1 ((fun b hb => F0.1 _ _ b ((fun b hb => F0.1 _ _ b P_this (e27.symm.trans hb)) _ e28) (e30.symm.trans hb)) _ e32) ((fun b hb => F0.1 _ _ b P_this (e31.symm.trans hb)) _ e34) q35) (by decide)
        cases hf
        exact F36
      · rw [if_neg c26] at hf
        by_cases c37 : x9 = 9
        · rw [if_pos c37] at hf
          obtain ⟨r32, e38⟩ : ∃ z, z = (hR h this 4) := ⟨_, rfl⟩; replace hf := lt_i hf r32 e38
          replace hf := nn_i hf; obtain ⟨a32, e39, hf⟩ := hf
          replace hf := tg_i hf; obtain ⟨t40, hf⟩ := hf
          obtain ⟨r34, e41⟩ : ∃ z, z = (hR h a32 3) := ⟨_, rfl⟩; replace hf := lt_i hf r34 e41
          obtain ⟨r35, e42⟩ : ∃ z, z = (hR h this 2) := ⟨_, rfl⟩; replace hf := lt_i hf r35 e42
          replace hf := nn_i hf; obtain ⟨a34, e43, hf⟩ := hf
          replace hf := tg_i hf; obtain ⟨t44, hf⟩ := hf
          replace hf := nn_i hf; obtain ⟨a35, e45, hf⟩ := hf
          replace hf := bd_i hf; obtain ⟨h37, q46, hf⟩ := hf
          have F47 := FrC.trans F0 (pX8_fetch_fr F0.1 ((fun b hb => F0.1 _ _ b ((fun b hb => F0.1 _ _ b P_this (e38.symm.trans hb)) _ e39) (e41.symm.trans hb)) _ e43) ((fun b hb => F0.1 _ _ b P_this (e42.symm.trans hb)) _ e45) q46) (by decide)
          cases hf
          exact F47
        · rw [if_neg c37] at hf
          by_cases c48 : x9 = 10
          · rw [if_pos c48] at hf
            obtain ⟨r40, e49⟩ : ∃ z, z = (hR h this 2) := ⟨_, rfl⟩; replace hf := lt_i hf r40 e49
            obtain ⟨r41, e50⟩ : ∃ z, z = (hR h this 3) := ⟨_, rfl⟩; replace hf := lt_i hf r41 e50
            replace hf := nn_i hf; obtain ⟨a40, e51, hf⟩ := hf
            replace hf := tg_i hf; obtain ⟨t52, hf⟩ := hf
            replace hf := nn_i hf; obtain ⟨a41, e53, hf⟩ := hf
            replace hf := bd_i hf; obtain ⟨h43, q54, hf⟩ := hf
            have F55 := FrC.trans F0 (pX4_plus_fr F0.1 ((fun b hb => F0.1 _ _ b P_this (e49.symm.trans hb)) _ e51) ((fun b hb => F0.1 _ _ b P_this (e50.symm.trans hb)) _ e53) q54) (by decide)
            cases hf
            exact F55
          · rw [if_neg c48] at hf
            by_cases c56 : x9 = 11
            · rw [if_pos c56] at hf
              obtain ⟨r46, e57⟩ : ∃ z, z = (hR h this 2) := ⟨_, rfl⟩; replace hf := lt_i hf r46 e57
              obtain ⟨r47, e58⟩ : ∃ z, z = (hR h this 3) := ⟨_, rfl⟩; replace hf := lt_i hf r47 e58
              replace hf := nn_i hf; obtain ⟨a46, e59, hf⟩ := hf
              replace hf := tg_i hf; obtain ⟨t60, hf⟩ := hf
              replace hf := nn_i hf; obtain ⟨a47, e61, hf⟩ := hf
              replace hf := bd_i hf; obtain ⟨h49, q62, hf⟩ := hf
              have F63 := FrC.trans F0 (pX4_minus_fr F0.1 ((fun b hb => F0.1 _ _ b P_this (e57.symm.trans hb)) _ e59) ((fun b hb => F0.1 _ _ b P_this (e58.symm.trans hb)) _ e61) q62) (by decide)
              cases hf
              exact F63
            · rw [if_neg c56] at hf
              by_cases c64 : x9 = 12
              · rw [if_pos c64] at hf
                obtain ⟨r52, e65⟩ : ∃ z, z = (hR h this 2) := ⟨_, rfl⟩; replace hf := lt_i hf r52 e65
                obtain ⟨r53, e66⟩ : ∃ z, z = (hR h this 3) := ⟨_, rfl⟩; replace hf := lt_i hf r53 e66
                replace hf := nn_i hf; obtain ⟨a52, e67, hf⟩ := hf
                replace hf := tg_i hf; obtain ⟨t68, hf⟩ := hf
                replace hf := nn_i hf; obtain ⟨a53, e69, hf⟩ := hf
                replace hf := bd_i hf; obtain ⟨h55, q70, hf⟩ := hf
                have F71 := FrC.trans F0 (pX4_times_fr F0.1 ((fun b hb => F0.1 _ _ b P_this (e65.symm.trans hb)) _ e67) ((fun b hb => F0.1 _ _ b P_this (e66.symm.trans hb)) _ e69) q70) (by decide)
                cases hf
                exact F71
              · rw [if_neg c64] at hf
                by_cases c72 : x9 = 13
                · rw [if_pos c72] at hf
                  obtain ⟨r58, e73⟩ : ∃ z, z = (hR h this 2) := ⟨_, rfl⟩; replace hf := lt_i hf r58 e73
                  obtain ⟨r59, e74⟩ : ∃ z, z = (hR h this 3) := ⟨_, rfl⟩; replace hf := lt_i hf r59 e74
                  replace hf := nn_i hf; obtain ⟨a58, e75, hf⟩ := hf
                  replace hf := tg_i hf; obtain ⟨t76, hf⟩ := hf
                  replace hf := nn_i hf; obtain ⟨a59, e77, hf⟩ := hf
                  replace hf := bd_i hf; obtain ⟨h61, q78, hf⟩ := hf
                  have F79 := FrC.trans F0 (pX4_over_fr F0.1 ((fun b hb => F0.1 _ _ b P_this (e73.symm.trans hb)) _ e75) ((fun b hb => F0.1 _ _ b P_this (e74.symm.trans hb)) _ e77) q78) (by decide)
                  cases hf
                  exact F79
                · rw [if_neg c72] at hf
                  by_cases c80 : x9 = 14
                  · rw [if_pos c80] at hf
                    obtain ⟨r64, e81⟩ : ∃ z, z = (hR h this 0) := ⟨_, rfl⟩; replace hf := lt_i hf r64 e81
                    obtain ⟨r65, e82⟩ : ∃ z, z = (hR h this 2) := ⟨_, rfl⟩; replace hf := lt_i hf r65 e82
                    obtain ⟨r66, e83⟩ : ∃ z, z = (hR h this 3) := ⟨_, rfl⟩; replace hf := lt_i hf r66 e83
                    replace hf := nn_i hf; obtain ⟨a64, e84, hf⟩ := hf
                    replace hf := tg_i hf; obtain ⟨t85, hf⟩ := hf
                    replace hf := nn_i hf; obtain ⟨a65, e86, hf⟩ := hf
                    replace hf := nn_i hf; obtain ⟨a66, e87, hf⟩ := hf
                    replace hf := bd_i hf; obtain ⟨h68, q88, hf⟩ := hf
                    have F89 := FrC.trans F0 (pX1_remainder_fr F0.1 ((fun b hb => F0.1 _ _ b P_this (e81.symm.trans hb)) _ e84) ((fun b hb => F0.1 _ _ b P_this (e82.symm.trans hb)) _ e86) ((fun b hb => F0.1 _ _ b P_this (e83.symm.trans hb)) _ e87) q88) (by decide)
                    cases hf
                    exact F89
                  · rw [if_neg c80] at hf
                    by_cases c90 : x9 = 15
                    · rw [if_pos c90] at hf
                      obtain ⟨r71, e91⟩ : ∃ z, z = (hR h this 2) := ⟨_, rfl⟩; replace hf := lt_i hf r71 e91
                      obtain ⟨r72, e92⟩ : ∃ z, z = (hR h this 3) := ⟨_, rfl⟩; replace hf := lt_i hf r72 e92
                      replace hf := nn_i hf; obtain ⟨a71, e93, hf⟩ := hf
                      replace hf := tg_i hf; obtain ⟨t94, hf⟩ := hf
                      replace hf := nn_i hf; obtain ⟨a72, e95, hf⟩ := hf
                      replace hf := bd_i hf; obtain ⟨h74, q96, hf⟩ := hf
                      have F97 := FrC.trans F0 (pX4_least_fr F0.1 ((fun b hb => F0.1 _ _ b P_this (e91.symm.trans hb)) _ e93) ((fun b hb => F0.1 _ _ b P_this (e92.symm.trans hb)) _ e95) q96) (by decide)
                      cases hf
                      exact F97
                    · rw [if_neg c90] at hf
                      by_cases c98 : x9 = 16
                      · rw [if_pos c98] at hf
                        obtain ⟨r77, e99⟩ : ∃ z, z = (hR h this 2) := ⟨_, rfl⟩; replace hf := lt_i hf r77 e99
                        obtain ⟨r78, e100⟩ : ∃ z, z = (hR h this 3) := ⟨_, rfl⟩; replace hf := lt_i hf r78 e100
                        replace hf := nn_i hf; obtain ⟨a77, e101, hf⟩ := hf
                        replace hf := tg_i hf; obtain ⟨t102, hf⟩ := hf
                        replace hf := nn_i hf; obtain ⟨a78, e103, hf⟩ := hf
                        replace hf := bd_i hf; obtain ⟨h80, q104, hf⟩ := hf
                        have F105 := FrC.trans F0 (pX4_most_fr F0.1 ((fun b hb => F0.1 _ _ b P_this (e99.symm.trans hb)) _ e101) ((fun b hb => F0.1 _ _ b P_this (e100.symm.trans hb)) _ e103) q104) (by decide)
                        cases hf
                        exact F105
                      · rw [if_neg c98] at hf
                        by_cases c106 : x9 = 17
                        · rw [if_pos c106] at hf
                          obtain ⟨r83, e107⟩ : ∃ z, z = (hR h this 2) := ⟨_, rfl⟩; replace hf := lt_i hf r83 e107
                          replace hf := nn_i hf; obtain ⟨a83, e108, hf⟩ := hf
                          replace hf := tg_i hf; obtain ⟨t109, hf⟩ := hf
                          replace hf := bd_i hf; obtain ⟨h85, q110, hf⟩ := hf
                          have F111 := FrC.trans F0 (pX4_toSingle_fr F0.1 ((fun b hb => F0.1 _ _ b P_this (e107.symm.trans hb)) _ e108) q110) (by decide)
                          cases hf
                          exact F111
                        · rw [if_neg c106] at hf
                          by_cases c112 : x9 = 18
                          · rw [if_pos c112] at hf
                            obtain ⟨r88, e113⟩ : ∃ z, z = (hR h this 2) := ⟨_, rfl⟩; replace hf := lt_i hf r88 e113
                            replace hf := nn_i hf; obtain ⟨a88, e114, hf⟩ := hf
                            replace hf := tg_i hf; obtain ⟨t115, hf⟩ := hf
                            replace hf := bd_i hf; obtain ⟨h90, q116, hf⟩ := hf
                            have F117 := FrC.trans F0 (pX4_toWhole_fr F0.1 ((fun b hb => F0.1 _ _ b P_this (e113.symm.trans hb)) _ e114) q116) (by decide)
                            cases hf
                            exact F117
                          · rw [if_neg c112] at hf
                            cases hf
                            exact F0
set_option maxRecDepth 10000 in
set_option maxHeartbeats 2000000 in
theorem pX9_reckon_b27_fr {P : Nat → Prop} {E : EC} {g : MT} {this : Nat} {p1 : Nat} {p2 : Int32} {p3 : Int32} {h : CT} {h0 : CT} {h9 : CT} (t0 : gT g this = 8) (PE : PEc P E) (P_this : P this) (P_p1 : P p1) (F0 : FrC P [(1, 4), (1, 2003), (4, 1), (4, 4000)] g h0 h) (hf : pX9_reckon_b27 E g this p1 p2 p3 h = some h9) : FrC P [(1, 4), (1, 2003), (4, 1), (4, 4000)] g h0 h9 := by
  unfold pX9_reckon_b27 at hf
  replace hf := tg_i hf; obtain ⟨t1, hf⟩ := hf
  obtain ⟨r2, e2⟩ : ∃ z, z = (hR h p1 0) := ⟨_, rfl⟩; replace hf := lt_i hf r2 e2
  replace hf := nn_i hf; obtain ⟨a2, e3, hf⟩ := hf
  replace hf := tg_i hf; obtain ⟨t4, hf⟩ := hf
  replace hf := bd_i hf; obtain ⟨x4, q5, hf⟩ := hf
  by_cases c6 : x4 = 0
  · rw [if_pos c6] at hf
    exact pX9_reckon_b55_fr t0 PE P_this P_p1 F0 hf
  · rw [if_neg c6] at hf
    obtain ⟨r7, e7⟩ : ∃ z, z = (hR h this 4) := ⟨_, rfl⟩; replace hf := lt_i hf r7 e7
    obtain ⟨r8, e8⟩ : ∃ z, z = (hR h this 3) := ⟨_, rfl⟩; replace hf := lt_i hf r8 e8
    replace hf := nn_i hf; obtain ⟨a7, e9, hf⟩ := hf
    replace hf := tg_i hf; obtain ⟨t10, hf⟩ := hf
    replace hf := nn_i hf; obtain ⟨a8, e11, hf⟩ := hf
    replace hf := bd_i hf; obtain ⟨h10, q12, hf⟩ := hf
    have F13 := FrC.trans F0 (pX3_fetch_fr F0.1 ((fun b hb => F0.1 _ _ b P_this (e7.symm.trans hb)) _ e9) ((fun b hb => F0.1 _ _ b P_this (e8.symm.trans hb)) _ e11) q12) (by decide)
    exact pX9_reckon_b55_fr t0 PE P_this P_p1 F13 hf
set_option maxRecDepth 10000 in
set_option maxHeartbeats 2000000 in
theorem pX9_reckon_fr {P : Nat → Prop} {E : EC} {g : MT} {h : CT} {this : Nat} {p1 : Nat} {p2 : Int32} {p3 : Int32} {h9 : CT} (PE : PEc P E) (hc : Cl P h) (P_this : P this) (P_p1 : P p1) (hf : pX9_reckon E g h this p1 p2 p3 = some h9) : FrC P [(1, 4), (1, 2003), (4, 1), (4, 4000)] g h h9 := by
  have F0 : FrC P [(1, 4), (1, 2003), (4, 1), (4, 4000)] g h h := FrC.rf hc
  unfold pX9_reckon at hf
  replace hf := tg_i hf; obtain ⟨t1, hf⟩ := hf
  replace hf := tg_i hf; obtain ⟨t2, hf⟩ := hf
  obtain ⟨r2, e3⟩ : ∃ z, z = (hR h p1 0) := ⟨_, rfl⟩; replace hf := lt_i hf r2 e3
  replace hf := nn_i hf; obtain ⟨a2, e4, hf⟩ := hf
  replace hf := tg_i hf; obtain ⟨t5, hf⟩ := hf
  replace hf := bd_i hf; obtain ⟨x4, q6, hf⟩ := hf
  by_cases c7 : x4 = 0
  · rw [if_pos c7] at hf
    exact pX9_reckon_b27_fr t1 PE P_this P_p1 F0 hf
  · rw [if_neg c7] at hf
    obtain ⟨r7, e8⟩ : ∃ z, z = (hR h this 4) := ⟨_, rfl⟩; replace hf := lt_i hf r7 e8
    obtain ⟨r8, e9⟩ : ∃ z, z = (hR h this 2) := ⟨_, rfl⟩; replace hf := lt_i hf r8 e9
    replace hf := nn_i hf; obtain ⟨a7, e10, hf⟩ := hf
    replace hf := tg_i hf; obtain ⟨t11, hf⟩ := hf
    replace hf := nn_i hf; obtain ⟨a8, e12, hf⟩ := hf
    replace hf := bd_i hf; obtain ⟨h10, q13, hf⟩ := hf
    have F14 := FrC.trans F0 (pX3_fetch_fr F0.1 ((fun b hb => F0.1 _ _ b P_this (e8.symm.trans hb)) _ e10) ((fun b hb => F0.1 _ _ b P_this (e9.symm.trans hb)) _ e12) q13) (by decide)
    exact pX9_reckon_b27_fr t1 PE P_this P_p1 F14 hf
set_option maxRecDepth 10000 in
set_option maxHeartbeats 2000000 in
theorem pX12_refuse_fr {P : Nat → Prop} {g : MT} {h : CT} {this : Nat} {p1 : Int32} {r9 : Int32} {h9 : CT} (hc : Cl P h) (P_this : P this) (hf : pX12_refuse g h this p1 = some (r9, h9)) : FrC P [(11, 19)] g h h9 := by
  have F0 : FrC P [(11, 19)] g h h := FrC.rf hc
  unfold pX12_refuse at hf
  replace hf := tg_i hf; obtain ⟨t1, hf⟩ := hf
  obtain ⟨h1, e2⟩ : ∃ z, z = (sI h this 19 p1) := ⟨_, rfl⟩; replace hf := lt_i hf h1 e2
  have F3 := FrC.sI F0 P_this t1 (Or.inl (by decide)) e2
  cases hf
  exact F3
set_option maxRecDepth 10000 in
set_option maxHeartbeats 2000000 in
theorem pX12_deny_fr {P : Nat → Prop} {g : MT} {h : CT} {this : Nat} {p1 : Int32} {r9 : Int32} {h9 : CT} (hc : Cl P h) (P_this : P this) (hf : pX12_deny g h this p1 = some (r9, h9)) : FrC P [(11, 19)] g h h9 := by
  have F0 : FrC P [(11, 19)] g h h := FrC.rf hc
  unfold pX12_deny at hf
  replace hf := tg_i hf; obtain ⟨t1, hf⟩ := hf
  obtain ⟨h1, e2⟩ : ∃ z, z = (sI h this 19 p1) := ⟨_, rfl⟩; replace hf := lt_i hf h1 e2
  have F3 := FrC.sI F0 P_this t1 (Or.inl (by decide)) e2
  cases hf
  exact F3
set_option maxRecDepth 10000 in
set_option maxHeartbeats 2000000 in
theorem pX12_answer_fr {P : Nat → Prop} {g : MT} {h : CT} {this : Nat} {p1 : Int32} {r9 : Int32} {h9 : CT} (hc : Cl P h) (P_this : P this) (hf : pX12_answer g h this p1 = some (r9, h9)) : FrC P [(11, 19)] g h h9 := by
  have F0 : FrC P [(11, 19)] g h h := FrC.rf hc
  unfold pX12_answer at hf
  replace hf := tg_i hf; obtain ⟨t1, hf⟩ := hf
  obtain ⟨h1, e2⟩ : ∃ z, z = (sI h this 19 0) := ⟨_, rfl⟩; replace hf := lt_i hf h1 e2
  have F3 := FrC.sI F0 P_this t1 (Or.inl (by decide)) e2
  cases hf
  exact F3
set_option maxRecDepth 10000 in
set_option maxHeartbeats 2000000 in
theorem pX12_agree_fr {P : Nat → Prop} {g : MT} {h : CT} {this : Nat} {r9 : Int32} {h9 : CT} (hc : Cl P h) (P_this : P this) (hf : pX12_agree g h this = some (r9, h9)) : FrC P [(11, 19)] g h h9 := by
  have F0 : FrC P [(11, 19)] g h h := FrC.rf hc
  unfold pX12_agree at hf
  replace hf := tg_i hf; obtain ⟨t1, hf⟩ := hf
  obtain ⟨h1, e2⟩ : ∃ z, z = (sI h this 19 0) := ⟨_, rfl⟩; replace hf := lt_i hf h1 e2
  have F3 := FrC.sI F0 P_this t1 (Or.inl (by decide)) e2
  cases hf
  exact F3
set_option maxRecDepth 10000 in
set_option maxHeartbeats 2000000 in
theorem pX12_tray_b16_fr {P : Nat → Prop} {g : MT} {this : Nat} {p1 : Int32} {p2 : Int32} {p3 : Int32} {h : CT} {h0 : CT} {r9 : Int32} {h9 : CT} (t0 : gT g this = 11) (P_this : P this) (F0 : FrC P [(10, 0), (10, 1), (10, 2), (11, 19), (21, 3000)] g h0 h) (hf : pX12_tray_b16 g this p1 p2 p3 h = some (r9, h9)) : FrC P [(10, 0), (10, 1), (10, 2), (11, 19), (21, 3000)] g h0 h9 := by
  unfold pX12_tray_b16 at hf
  replace hf := bd2_i hf; obtain ⟨x3, h1, q1, hf⟩ := hf
  have F2 := FrC.trans F0 (pX12_deny_fr F0.1 P_this q1) (by decide)
  replace hf := (bz_i hf).2
  cases hf
  exact F2
set_option maxRecDepth 10000 in
set_option maxHeartbeats 2000000 in
theorem pX12_tray_fr {P : Nat → Prop} {g : MT} {h : CT} {this : Nat} {p1 : Int32} {p2 : Int32} {p3 : Int32} {r9 : Int32} {h9 : CT} (hc : Cl P h) (P_this : P this) (hf : pX12_tray g h this p1 p2 p3 = some (r9, h9)) : FrC P [(10, 0), (10, 1), (10, 2), (11, 19), (21, 3000)] g h h9 := by
  have F0 : FrC P [(10, 0), (10, 1), (10, 2), (11, 19), (21, 3000)] g h h := FrC.rf hc
  unfold pX12_tray at hf
  replace hf := tg_i hf; obtain ⟨t1, hf⟩ := hf
  by_cases c2 : (pX12_isTray p1) = 0
  · rw [if_pos c2] at hf
    exact pX12_tray_b16_fr t1 P_this F0 hf
  · rw [if_neg c2] at hf
    by_cases c3 : (pX12_within p2 0 3) = 0
    · rw [if_pos c3] at hf
      exact pX12_tray_b16_fr t1 P_this F0 hf
    · rw [if_neg c3] at hf
      by_cases c4 : p3 ≤ 60
      · rw [if_pos c4] at hf
        by_cases c5 : 0 ≤ p3
        · rw [if_pos c5] at hf
          obtain ⟨r5, e6⟩ : ∃ z, z = (hR h this 0) := ⟨_, rfl⟩; replace hf := lt_i hf r5 e6
          replace hf := nn_i hf; obtain ⟨a5, e7, hf⟩ := hf
          replace hf := tg_i hf; obtain ⟨t8, hf⟩ := hf
          replace hf := (ix_i hf).2
          obtain ⟨r8, e9⟩ : ∃ z, z = (hR h a5 (Int32.toNatClampNeg p1)) := ⟨_, rfl⟩; replace hf := lt_i hf r8 e9
          replace hf := nn_i hf; obtain ⟨a8, e10, hf⟩ := hf
          replace hf := tg_i hf; obtain ⟨t11, hf⟩ := hf
          replace hf := bd_i hf; obtain ⟨h10, q12, hf⟩ := hf
          have F13 := FrC.trans F0 (pX11_begin_fr F0.1 ((fun b hb => F0.1 _ _ b ((fun b hb => F0.1 _ _ b P_this (e6.symm.trans hb)) _ e7) (e9.symm.trans hb)) _ e10) q12) (by decide)
          replace hf := bd2_i hf; obtain ⟨x14, h12, q14, hf⟩ := hf
          have F15 := FrC.trans F13 (pX12_agree_fr F13.1 P_this q14) (by decide)
          replace hf := (bz_i hf).2
          cases hf
          exact F15
        · rw [if_neg c5] at hf
          replace hf := bd2_i hf; obtain ⟨x18, h16, q16, hf⟩ := hf
          have F17 := FrC.trans F0 (pX12_deny_fr F0.1 P_this q16) (by decide)
          replace hf := (bz_i hf).2
          cases hf
          exact F17
      · rw [if_neg c4] at hf
        replace hf := bd2_i hf; obtain ⟨x22, h20, q18, hf⟩ := hf
        have F19 := FrC.trans F0 (pX12_deny_fr F0.1 P_this q18) (by decide)
        replace hf := (bz_i hf).2
        cases hf
        exact F19
set_option maxRecDepth 10000 in
set_option maxHeartbeats 2000000 in
theorem pX12_read_fr {P : Nat → Prop} {g : MT} {h : CT} {this : Nat} {p1 : Int32} {p2 : Int32} {r9 : Int64} {h9 : CT} (hc : Cl P h) (P_this : P this) (hf : pX12_read g h this p1 p2 = some (r9, h9)) : FrC P [(11, 19)] g h h9 := by
  have F0 : FrC P [(11, 19)] g h h := FrC.rf hc
  unfold pX12_read at hf
  replace hf := tg_i hf; obtain ⟨t1, hf⟩ := hf
  replace hf := bd_i hf; obtain ⟨x1, q2, hf⟩ := hf
  by_cases c3 : x1 = 0
  · rw [if_pos c3] at hf
    obtain ⟨h4, e4⟩ : ∃ z, z = (sI h this 19 0) := ⟨_, rfl⟩; replace hf := lt_i hf h4 e4
    have F5 := FrC.sI F0 P_this t1 (Or.inl (by decide)) e4
    obtain ⟨r5, e6⟩ : ∃ z, z = (hR h4 this 0) := ⟨_, rfl⟩; replace hf := lt_i hf r5 e6
    replace hf := nn_i hf; obtain ⟨a5, e7, hf⟩ := hf
    replace hf := tg_i hf; obtain ⟨t8, hf⟩ := hf
    replace hf := (ix_i hf).2
    obtain ⟨r8, e9⟩ : ∃ z, z = (hR h4 a5 (Int32.toNatClampNeg p1)) := ⟨_, rfl⟩; replace hf := lt_i hf r8 e9
    replace hf := nn_i hf; obtain ⟨a8, e10, hf⟩ := hf
    replace hf := tg_i hf; obtain ⟨t11, hf⟩ := hf
    replace hf := bd_i hf; obtain ⟨x10, q12, hf⟩ := hf
    cases hf
    exact F5
  · rw [if_neg c3] at hf
    replace hf := bd2_i hf; obtain ⟨x14, h12, q13, hf⟩ := hf
    have F14 := FrC.trans F0 (pX12_refuse_fr F0.1 P_this q13) (by decide)
    cases hf
    exact F14
set_option maxRecDepth 10000 in
set_option maxHeartbeats 2000000 in
theorem pX12_pour_b14_fr {P : Nat → Prop} {g : MT} {this : Nat} {p1 : Int32} {p2 : Int32} {p3 : Int32} {p4 : Int32} {p5 : Int32} {h : CT} {h0 : CT} {r9 : Int32} {h9 : CT} (t0 : gT g this = 11) (P_this : P this) (F0 : FrC P [(11, 19), (21, 3000)] g h0 h) (hf : pX12_pour_b14 g this p1 p2 p3 p4 p5 h = some (r9, h9)) : FrC P [(11, 19), (21, 3000)] g h0 h9 := by
  unfold pX12_pour_b14 at hf
  replace hf := bd2_i hf; obtain ⟨x3, h1, q1, hf⟩ := hf
  have F2 := FrC.trans F0 (pX12_deny_fr F0.1 P_this q1) (by decide)
  replace hf := (bz_i hf).2
  cases hf
  exact F2
set_option maxRecDepth 10000 in
set_option maxHeartbeats 2000000 in
theorem pX12_pour_b52_fr {P : Nat → Prop} {g : MT} {this : Nat} {p1 : Int32} {p2 : Int32} {p3 : Int32} {p4 : Int32} {p5 : Int32} {h : CT} {h0 : CT} {r9 : Int32} {h9 : CT} (t0 : gT g this = 11) (P_this : P this) (F0 : FrC P [(11, 19), (21, 3000)] g h0 h) (hf : pX12_pour_b52 g this p1 p2 p3 p4 p5 h = some (r9, h9)) : FrC P [(11, 19), (21, 3000)] g h0 h9 := by
  unfold pX12_pour_b52 at hf
  replace hf := bd2_i hf; obtain ⟨x3, h1, q1, hf⟩ := hf
  have F2 := FrC.trans F0 (pX12_deny_fr F0.1 P_this q1) (by decide)
  replace hf := (bz_i hf).2
  cases hf
  exact F2
set_option maxRecDepth 10000 in
set_option maxHeartbeats 2000000 in
theorem pX12_pour_b113_fr {P : Nat → Prop} {g : MT} {this : Nat} {p1 : Int32} {p2 : Int32} {p3 : Int32} {p4 : Int32} {p5 : Int32} {h : CT} {h0 : CT} {r9 : Int32} {h9 : CT} (t0 : gT g this = 11) (P_this : P this) (F0 : FrC P [(11, 19), (21, 3000)] g h0 h) (hf : pX12_pour_b113 g this p1 p2 p3 p4 p5 h = some (r9, h9)) : FrC P [(11, 19), (21, 3000)] g h0 h9 := by
  unfold pX12_pour_b113 at hf
  replace hf := bd2_i hf; obtain ⟨x3, h1, q1, hf⟩ := hf
  have F2 := FrC.trans F0 (pX12_deny_fr F0.1 P_this q1) (by decide)
  replace hf := (bz_i hf).2
  cases hf
  exact F2
set_option maxRecDepth 10000 in
set_option maxHeartbeats 2000000 in
theorem pX12_pour_fr {P : Nat → Prop} {g : MT} {h : CT} {this : Nat} {p1 : Int32} {p2 : Int32} {p3 : Int32} {p4 : Int32} {p5 : Int32} {r9 : Int32} {h9 : CT} (hc : Cl P h) (P_this : P this) (hf : pX12_pour g h this p1 p2 p3 p4 p5 = some (r9, h9)) : FrC P [(11, 19), (21, 3000)] g h h9 := by
  have F0 : FrC P [(11, 19), (21, 3000)] g h h := FrC.rf hc
  unfold pX12_pour at hf
  replace hf := tg_i hf; obtain ⟨t1, hf⟩ := hf
  by_cases c2 : (pX12_isTray p1) = 0
  · rw [if_pos c2] at hf
    exact pX12_pour_b14_fr t1 P_this F0 hf
  · rw [if_neg c2] at hf
    by_cases c3 : (pX12_isTray p3) = 0
    · rw [if_pos c3] at hf
      exact pX12_pour_b14_fr t1 P_this F0 hf
    · rw [if_neg c3] at hf
      obtain ⟨r3, e4⟩ : ∃ z, z = (hR h this 0) := ⟨_, rfl⟩; replace hf := lt_i hf r3 e4
      replace hf := nn_i hf; obtain ⟨a3, e5, hf⟩ := hf
      replace hf := tg_i hf; obtain ⟨t6, hf⟩ := hf
      replace hf := (ix_i hf).2
      obtain ⟨r6, e7⟩ : ∃ z, z = (hR h a3 (Int32.toNatClampNeg p1)) := ⟨_, rfl⟩; replace hf := lt_i hf r6 e7
      obtain ⟨r7, e8⟩ : ∃ z, z = (hR h this 0) := ⟨_, rfl⟩; replace hf := lt_i hf r7 e8
      replace hf := nn_i hf; obtain ⟨a7, e9, hf⟩ := hf
      replace hf := tg_i hf; obtain ⟨t10, hf⟩ := hf
      replace hf := (ix_i hf).2
      obtain ⟨r10, e11⟩ : ∃ z, z = (hR h a7 (Int32.toNatClampNeg p3)) := ⟨_, rfl⟩; replace hf := lt_i hf r10 e11
      replace hf := nn_i hf; obtain ⟨a6, e12, hf⟩ := hf
      replace hf := tg_i hf; obtain ⟨t13, hf⟩ := hf
      by_cases c14 : (hI h a6 0) = 0
      · rw [if_pos c14] at hf
        exact pX12_pour_b52_fr t1 P_this F0 hf
      · rw [if_neg c14] at hf
        replace hf := nn_i hf; obtain ⟨a10, e15, hf⟩ := hf
        replace hf := tg_i hf; obtain ⟨t16, hf⟩ := hf
        by_cases c17 : (hI h a10 0) = 0
        · rw [if_pos c17] at hf
          exact pX12_pour_b52_fr t1 P_this F0 hf
        · rw [if_neg c17] at hf
          by_cases c18 : (hI h a6 1) = (hI h a10 1)
          · rw [if_pos c18] at hf
            by_cases c19 : 0 ≤ p5
            · rw [if_pos c19] at hf
              replace hf := bd_i hf; obtain ⟨x17, q20, hf⟩ := hf
              by_cases c21 : x17 = 0
              · rw [if_pos c21] at hf
                exact pX12_pour_b113_fr t1 P_this F0 hf
              · rw [if_neg c21] at hf
                replace hf := bd_i hf; obtain ⟨x20, q22, hf⟩ := hf
                by_cases c23 : x20 = 0
                · rw [if_pos c23] at hf
                  exact pX12_pour_b113_fr t1 P_this F0 hf
                · rw [if_neg c23] at hf
                  obtain ⟨r23, e24⟩ : ∃ z, z = (hR h a6 3) := ⟨_, rfl⟩; replace hf := lt_i hf r23 e24
                  obtain ⟨r24, e25⟩ : ∃ z, z = (hR h a10 3) := ⟨_, rfl⟩; replace hf := lt_i hf r24 e25
                  replace hf := nn_i hf; obtain ⟨a23, e26, hf⟩ := hf
                  replace hf := nn_i hf; obtain ⟨a24, e27, hf⟩ := hf
                  replace hf := tg_i hf; obtain ⟨t28, hf⟩ := hf
                  replace hf := tg_i hf; obtain ⟨t29, hf⟩ := hf
                  replace hf := (cpk_i hf).2
                  obtain ⟨h28, e30⟩ : ∃ z, z = (cpL h a23 a24 (Int32.toNatClampNeg p2) (Int32.toNatClampNeg p4) (Int32.toNatClampNeg p5)) := ⟨_, rfl⟩; replace hf := lt_i hf h28 e30
                  have F31 := FrC.cpL F0 ((fun b hb => F0.1 _ _ b ((fun b hb => F0.1 _ _ b ((fun b hb => F0.1 _ _ b P_this (e8.symm.trans hb)) _ e9) (e11.symm.trans hb)) _ e15) (e25.symm.trans hb)) _ e27) t29 (by decide) e30
                  replace hf := bd2_i hf; obtain ⟨x31, h29, q32, hf⟩ := hf
                  have F33 := FrC.trans F31 (pX12_agree_fr F31.1 P_this q32) (by decide)
                  replace hf := (bz_i hf).2
                  cases hf
                  exact F33
            · rw [if_neg c19] at hf
              replace hf := bd2_i hf; obtain ⟨x35, h33, q34, hf⟩ := hf
              have F35 := FrC.trans F0 (pX12_deny_fr F0.1 P_this q34) (by decide)
              replace hf := (bz_i hf).2
              cases hf
              exact F35
          · rw [if_neg c18] at hf
            replace hf := bd2_i hf; obtain ⟨x39, h37, q36, hf⟩ := hf
            have F37 := FrC.trans F0 (pX12_deny_fr F0.1 P_this q36) (by decide)
            replace hf := (bz_i hf).2
            cases hf
            exact F37
set_option maxRecDepth 10000 in
set_option maxHeartbeats 2000000 in
theorem pX12_tapeInt_b3_fr {P : Nat → Prop} {g : MT} {this : Nat} {p1 : Int32} {k3 : Int32 → CT → Option CT} {l2 : Int32} {h : CT} {h0 : CT} {h9 : CT} (t0 : gT g this = 11) (P_this : P this) (hk3 : ∀ (v0 : Int32) (v1 : CT), FrC P [(11, 2), (23, 1000)] g h0 v1 → k3 v0 v1 = some h9 → FrC P [(11, 2), (23, 1000)] g h0 h9) (F0 : FrC P [(11, 2), (23, 1000)] g h0 h) (hf : pX12_tapeInt_b3 g this p1 k3 l2 h = some h9) : FrC P [(11, 2), (23, 1000)] g h0 h9 := by
  unfold pX12_tapeInt_b3 at hf
  by_cases c1 : l2 < 0
  · rw [if_pos c1] at hf
    cases hf
    exact F0
  · rw [if_neg c1] at hf
    by_cases c2 : 900 ≤ (hI h this 2)
    · rw [if_pos c2] at hf
      cases hf
      exact F0
    · rw [if_neg c2] at hf
      obtain ⟨r3, e3⟩ : ∃ z, z = (hR h this 1) := ⟨_, rfl⟩; replace hf := lt_i hf r3 e3
      replace hf := nn_i hf; obtain ⟨a3, e4, hf⟩ := hf
      replace hf := tg_i hf; obtain ⟨t5, hf⟩ := hf
      replace hf := (ix_i hf).2
      obtain ⟨h6, e6⟩ : ∃ z, z = (sI h a3 (Int32.toNatClampNeg (hI h this 2)) (vp_nar .byte (Int8.toInt32 (Int32.toInt8 (p1 >>> (l2 &&& 31)))))) := ⟨_, rfl⟩; replace hf := lt_i hf h6 e6
      have F7 := FrC.sI F0 ((fun b hb => F0.1 _ _ b P_this (e3.symm.trans hb)) _ e4) t5 (Or.inr (by decide)) e6
      obtain ⟨h7, e8⟩ : ∃ z, z = (sI h6 this 2 ((hI h6 this 2) + 1)) := ⟨_, rfl⟩; replace hf := lt_i hf h7 e8
      have F9 := FrC.sI F7 P_this t0 (Or.inl (by decide)) e8
      obtain ⟨x8, e10⟩ : ∃ z, z = (l2 + (-8)) := ⟨_, rfl⟩; replace hf := lt_i hf x8 e10
      exact hk3 _ _ F9 hf
set_option maxRecDepth 10000 in
set_option maxHeartbeats 2000000 in
theorem pX12_tapeInt_l3_fr {P : Nat → Prop} {g : MT} {this : Nat} {p1 : Int32} {h0 : CT} {h9 : CT} (t0 : gT g this = 11) (P_this : P this) : ∀ (n : Nat) (v1 : Int32) (v2 : CT), FrC P [(11, 2), (23, 1000)] g h0 v2 → pX12_tapeInt_l3 g this p1 n v1 v2 = some h9 → FrC P [(11, 2), (23, 1000)] g h0 h9 := by
  intro n
  induction n with
  | zero => intro v1 v2 F0 hf; cases hf
  | succ n ih => intro v1 v2 F0 hf; exact pX12_tapeInt_b3_fr t0 P_this ih F0 hf
set_option maxRecDepth 10000 in
set_option maxHeartbeats 2000000 in
theorem pX12_tapeInt_fr {P : Nat → Prop} {g : MT} {h : CT} {this : Nat} {p1 : Int32} {h9 : CT} (hc : Cl P h) (P_this : P this) (hf : pX12_tapeInt g h this p1 = some h9) : FrC P [(11, 2), (23, 1000)] g h h9 := by
  have F0 : FrC P [(11, 2), (23, 1000)] g h h := FrC.rf hc
  unfold pX12_tapeInt at hf
  replace hf := tg_i hf; obtain ⟨t1, hf⟩ := hf
  exact pX12_tapeInt_l3_fr t1 P_this _ _ _ F0 hf
set_option maxRecDepth 10000 in
set_option maxHeartbeats 2000000 in
theorem pX12_many_fr {P : Nat → Prop} {g : MT} {h : CT} {this : Nat} {p1 : Int32} {r9 : Int32} {h9 : CT} (hc : Cl P h) (P_this : P this) (hf : pX12_many g h this p1 = some (r9, h9)) : FrC P [(11, 19)] g h h9 := by
  have F0 : FrC P [(11, 19)] g h h := FrC.rf hc
  unfold pX12_many at hf
  replace hf := tg_i hf; obtain ⟨t1, hf⟩ := hf
  by_cases c2 : p1 = 0
  · rw [if_pos c2] at hf
    obtain ⟨r2, e3⟩ : ∃ z, z = (hR h this 4) := ⟨_, rfl⟩; replace hf := lt_i hf r2 e3
    replace hf := nn_i hf; obtain ⟨a2, e4, hf⟩ := hf
    replace hf := tg_i hf; obtain ⟨t5, hf⟩ := hf
    replace hf := bd2_i hf; obtain ⟨x6, h4, q6, hf⟩ := hf
    have F7 := FrC.trans F0 (pX12_answer_fr F0.1 P_this q6) (by decide)
    cases hf
    exact F7
  · rw [if_neg c2] at hf
    by_cases c8 : p1 = 1
    · rw [if_pos c8] at hf
      obtain ⟨r8, e9⟩ : ∃ z, z = (hR h this 4) := ⟨_, rfl⟩; replace hf := lt_i hf r8 e9
      replace hf := nn_i hf; obtain ⟨a8, e10, hf⟩ := hf
      replace hf := tg_i hf; obtain ⟨t11, hf⟩ := hf
      replace hf := bd2_i hf; obtain ⟨x12, h10, q12, hf⟩ := hf
      have F13 := FrC.trans F0 (pX12_answer_fr F0.1 P_this q12) (by decide)
      cases hf
      exact F13
    · rw [if_neg c8] at hf
      by_cases c14 : p1 = 2
      · rw [if_pos c14] at hf
        obtain ⟨r14, e15⟩ : ∃ z, z = (hR h this 4) := ⟨_, rfl⟩; replace hf := lt_i hf r14 e15
        replace hf := nn_i hf; obtain ⟨a14, e16, hf⟩ := hf
        replace hf := tg_i hf; obtain ⟨t17, hf⟩ := hf
        replace hf := bd2_i hf; obtain ⟨x18, h16, q18, hf⟩ := hf
        have F19 := FrC.trans F0 (pX12_answer_fr F0.1 P_this q18) (by decide)
        cases hf
        exact F19
      · rw [if_neg c14] at hf
        by_cases c20 : p1 = 3
        · rw [if_pos c20] at hf
          obtain ⟨r20, e21⟩ : ∃ z, z = (hR h this 4) := ⟨_, rfl⟩; replace hf := lt_i hf r20 e21
          replace hf := nn_i hf; obtain ⟨a20, e22, hf⟩ := hf
          replace hf := tg_i hf; obtain ⟨t23, hf⟩ := hf
          replace hf := bd2_i hf; obtain ⟨x24, h22, q24, hf⟩ := hf
          have F25 := FrC.trans F0 (pX12_answer_fr F0.1 P_this q24) (by decide)
          cases hf
          exact F25
        · rw [if_neg c20] at hf
          by_cases c26 : p1 = 4
          · rw [if_pos c26] at hf
            obtain ⟨r26, e27⟩ : ∃ z, z = (hR h this 4) := ⟨_, rfl⟩; replace hf := lt_i hf r26 e27
            replace hf := nn_i hf; obtain ⟨a26, e28, hf⟩ := hf
            replace hf := tg_i hf; obtain ⟨t29, hf⟩ := hf
            obtain ⟨r28, e30⟩ : ∃ z, z = (hR h a26 8) := ⟨_, rfl⟩; replace hf := lt_i hf r28 e30
            replace hf := nn_i hf; obtain ⟨a28, e31, hf⟩ := hf
            replace hf := tg_i hf; obtain ⟨t32, hf⟩ := hf
            replace hf := bd2_i hf; obtain ⟨x32, h30, q33, hf⟩ := hf
            have F34 := FrC.trans F0 (pX12_answer_fr F0.1 P_this q33) (by decide)
            cases hf
            exact F34
          · rw [if_neg c26] at hf
            by_cases c35 : p1 = 5
            · rw [if_pos c35] at hf
              obtain ⟨r34, e36⟩ : ∃ z, z = (hR h this 4) := ⟨_, rfl⟩; replace hf := lt_i hf r34 e36
              replace hf := nn_i hf; obtain ⟨a34, e37, hf⟩ := hf
              replace hf := tg_i hf; obtain ⟨t38, hf⟩ := hf
              replace hf := bd_i hf; obtain ⟨x36, q39, hf⟩ := hf
              replace hf := bd2_i hf; obtain ⟨x40, h38, q40, hf⟩ := hf
              have F41 := FrC.trans F0 (pX12_answer_fr F0.1 P_this q40) (by decide)
              cases hf
              exact F41
            · rw [if_neg c35] at hf
              replace hf := bd2_i hf; obtain ⟨x43, h41, q42, hf⟩ := hf
              have F43 := FrC.trans F0 (pX12_refuse_fr F0.1 P_this q42) (by decide)
              cases hf
              exact F43
set_option maxRecDepth 10000 in
set_option maxHeartbeats 2000000 in
theorem pX12_pokeAll_b24_fr {P : Nat → Prop} {g : MT} {this : Nat} {p1 : Int32} {p2 : Int32} {p3 : Int32} {k24 : Int32 → CT → Option ((Int32) × CT)} {l5 : Int32} {h : CT} {h0 : CT} {r9 : Int32} {h9 : CT} (t0 : gT g this = 11) (P_this : P this) (hk24 : ∀ (v0 : Int32) (v1 : CT), FrC P [(4, 1), (4, 4000), (11, 19), (22, 5000), (24, 1000)] g h0 v1 → k24 v0 v1 = some (r9, h9) → FrC P [(4, 1), (4, 4000), (11, 19), (22, 5000), (24, 1000)] g h0 h9) (F0 : FrC P [(4, 1), (4, 4000), (11, 19), (22, 5000), (24, 1000)] g h0 h) (hf : pX12_pokeAll_b24 g this p1 p2 p3 k24 l5 h = some (r9, h9)) : FrC P [(4, 1), (4, 4000), (11, 19), (22, 5000), (24, 1000)] g h0 h9 := by
  unfold pX12_pokeAll_b24 at hf
  by_cases c1 : p3 ≤ l5
  · rw [if_pos c1] at hf
    replace hf := bd2_i hf; obtain ⟨x4, h2, q2, hf⟩ := hf
    have F3 := FrC.trans F0 (pX12_answer_fr F0.1 P_this q2) (by decide)
    cases hf
    exact F3
  · rw [if_neg c1] at hf
    obtain ⟨r5, e4⟩ : ∃ z, z = (hR h this 17) := ⟨_, rfl⟩; replace hf := lt_i hf r5 e4
    obtain ⟨r6, e5⟩ : ∃ z, z = (hR h this 0) := ⟨_, rfl⟩; replace hf := lt_i hf r6 e5
    replace hf := nn_i hf; obtain ⟨a6, e6, hf⟩ := hf
    replace hf := tg_i hf; obtain ⟨t7, hf⟩ := hf
    replace hf := (ix_i hf).2
    obtain ⟨r9, e8⟩ : ∃ z, z = (hR h a6 (Int32.toNatClampNeg p2)) := ⟨_, rfl⟩; replace hf := lt_i hf r9 e8
    replace hf := nn_i hf; obtain ⟨a9, e9, hf⟩ := hf
    replace hf := tg_i hf; obtain ⟨t10, hf⟩ := hf
    replace hf := bd_i hf; obtain ⟨x11, q11, hf⟩ := hf
    replace hf := nn_i hf; obtain ⟨a5, e12, hf⟩ := hf
    replace hf := tg_i hf; obtain ⟨t13, hf⟩ := hf
    replace hf := bd_i hf; obtain ⟨h14, q14, hf⟩ := hf
    have F15 := FrC.trans F0 (pX4_set_fr F0.1 ((fun b hb => F0.1 _ _ b P_this (e4.symm.trans hb)) _ e12) q14) (by decide)
    obtain ⟨r16, e16⟩ : ∃ z, z = (hR h14 this 4) := ⟨_, rfl⟩; replace hf := lt_i hf r16 e16
    replace hf := nn_i hf; obtain ⟨a16, e17, hf⟩ := hf
    replace hf := tg_i hf; obtain ⟨t18, hf⟩ := hf
    obtain ⟨r18, e19⟩ : ∃ z, z = (hR h14 a16 3) := ⟨_, rfl⟩; replace hf := lt_i hf r18 e19
    obtain ⟨r19, e20⟩ : ∃ z, z = (hR h14 this 17) := ⟨_, rfl⟩; replace hf := lt_i hf r19 e20
    replace hf := nn_i hf; obtain ⟨a18, e21, hf⟩ := hf
    replace hf := tg_i hf; obtain ⟨t22, hf⟩ := hf
    replace hf := nn_i hf; obtain ⟨a19, e23, hf⟩ := hf
    replace hf := bd_i hf; obtain ⟨h21, q24, hf⟩ := hf
    have F25 := FrC.trans F15 (pX8_keep_fr F15.1 ((fun b hb => F15.1 _ _ b ((fun b hb => F15.1 _ _ b P_this (e16.symm.trans hb)) _ e17) (e19.symm.trans hb)) _ e21) ((fun b hb => F15.1 _ _ b P_this (e20.symm.trans hb)) _ e23) q24) (by decide)
    obtain ⟨x23, e26⟩ : ∃ z, z = (l5 + 1) := ⟨_, rfl⟩; replace hf := lt_i hf x23 e26
    exact hk24 _ _ F25 hf
set_option maxRecDepth 10000 in
set_option maxHeartbeats 2000000 in
theorem pX12_pokeAll_l24_fr {P : Nat → Prop} {g : MT} {this : Nat} {p1 : Int32} {p2 : Int32} {p3 : Int32} {h0 : CT} {r9 : Int32} {h9 : CT} (t0 : gT g this = 11) (P_this : P this) : ∀ (n : Nat) (v1 : Int32) (v2 : CT), FrC P [(4, 1), (4, 4000), (11, 19), (22, 5000), (24, 1000)] g h0 v2 → pX12_pokeAll_l24 g this p1 p2 p3 n v1 v2 = some (r9, h9) → FrC P [(4, 1), (4, 4000), (11, 19), (22, 5000), (24, 1000)] g h0 h9 := by
  intro n
  induction n with
  | zero => intro v1 v2 F0 hf; cases hf
  | succ n ih => intro v1 v2 F0 hf; exact pX12_pokeAll_b24_fr t0 P_this ih F0 hf
set_option maxRecDepth 10000 in
set_option maxHeartbeats 2000000 in
theorem pX12_pokeAll_fr {P : Nat → Prop} {g : MT} {h : CT} {this : Nat} {p1 : Int32} {p2 : Int32} {p3 : Int32} {r9 : Int32} {h9 : CT} (hc : Cl P h) (P_this : P this) (hf : pX12_pokeAll g h this p1 p2 p3 = some (r9, h9)) : FrC P [(4, 1), (4, 4000), (11, 19), (22, 5000), (24, 1000)] g h h9 := by
  have F0 : FrC P [(4, 1), (4, 4000), (11, 19), (22, 5000), (24, 1000)] g h h := FrC.rf hc
  unfold pX12_pokeAll at hf
  replace hf := tg_i hf; obtain ⟨t1, hf⟩ := hf
  replace hf := bd_i hf; obtain ⟨x1, q2, hf⟩ := hf
  by_cases c3 : x1 = 0
  · rw [if_pos c3] at hf
    exact pX12_pokeAll_l24_fr t1 P_this _ _ _ F0 hf
  · rw [if_neg c3] at hf
    replace hf := bd2_i hf; obtain ⟨x6, h4, q4, hf⟩ := hf
    have F5 := FrC.trans F0 (pX12_refuse_fr F0.1 P_this q4) (by decide)
    cases hf
    exact F5
set_option maxRecDepth 10000 in
set_option maxHeartbeats 2000000 in
theorem pX12_drop_fr {P : Nat → Prop} {g : MT} {h : CT} {this : Nat} {p1 : Int32} {r9 : Int32} {h9 : CT} (hc : Cl P h) (P_this : P this) (hf : pX12_drop g h this p1 = some (r9, h9)) : FrC P [(11, 19), (24, 1000)] g h h9 := by
  have F0 : FrC P [(11, 19), (24, 1000)] g h h := FrC.rf hc
  unfold pX12_drop at hf
  replace hf := tg_i hf; obtain ⟨t1, hf⟩ := hf
  replace hf := bd_i hf; obtain ⟨x1, q2, hf⟩ := hf
  by_cases c3 : x1 = 0
  · rw [if_pos c3] at hf
    obtain ⟨r4, e4⟩ : ∃ z, z = (hR h this 4) := ⟨_, rfl⟩; replace hf := lt_i hf r4 e4
    replace hf := nn_i hf; obtain ⟨a4, e5, hf⟩ := hf
    replace hf := tg_i hf; obtain ⟨t6, hf⟩ := hf
    obtain ⟨r6, e7⟩ : ∃ z, z = (hR h a4 1) := ⟨_, rfl⟩; replace hf := lt_i hf r6 e7
    replace hf := nn_i hf; obtain ⟨a6, e8, hf⟩ := hf
    replace hf := tg_i hf; obtain ⟨t9, hf⟩ := hf
    replace hf := (ix_i hf).2
    obtain ⟨h9, e10⟩ : ∃ z, z = (sI h a6 (Int32.toNatClampNeg p1) (vp_nar .boolean 0)) := ⟨_, rfl⟩; replace hf := lt_i hf h9 e10
    have F11 := FrC.sI F0 ((fun b hb => F0.1 _ _ b ((fun b hb => F0.1 _ _ b P_this (e4.symm.trans hb)) _ e5) (e7.symm.trans hb)) _ e8) t9 (Or.inr (by decide)) e10
    replace hf := bd2_i hf; obtain ⟨x12, h10, q12, hf⟩ := hf
    have F13 := FrC.trans F11 (pX12_agree_fr F11.1 P_this q12) (by decide)
    replace hf := (bz_i hf).2
    cases hf
    exact F13
  · rw [if_neg c3] at hf
    replace hf := bd2_i hf; obtain ⟨x16, h14, q14, hf⟩ := hf
    have F15 := FrC.trans F0 (pX12_deny_fr F0.1 P_this q14) (by decide)
    replace hf := (bz_i hf).2
    cases hf
    exact F15
set_option maxRecDepth 10000 in
set_option maxHeartbeats 2000000 in
theorem pX12_rule_b104_fr {P : Nat → Prop} {g : MT} {this : Nat} {p1 : Int32} {p2 : Int32} {h : CT} {h0 : CT} {r9 : Int32} {h9 : CT} (t0 : gT g this = 11) (P_this : P this) (F0 : FrC P [(3, 4), (3, 5), (3, 6), (3, 7), (11, 19)] g h0 h) (hf : pX12_rule_b104 g this p1 p2 h = some (r9, h9)) : FrC P [(3, 4), (3, 5), (3, 6), (3, 7), (11, 19)] g h0 h9 := by
  unfold pX12_rule_b104 at hf
  replace hf := bd2_i hf; obtain ⟨x3, h1, q1, hf⟩ := hf
  have F2 := FrC.trans F0 (pX12_deny_fr F0.1 P_this q1) (by decide)
  replace hf := (bz_i hf).2
  cases hf
  exact F2
set_option maxRecDepth 10000 in
set_option maxHeartbeats 2000000 in
theorem pX12_rule_b110_fr {P : Nat → Prop} {g : MT} {this : Nat} {p1 : Int32} {p2 : Int32} {h : CT} {h0 : CT} {r9 : Int32} {h9 : CT} (t0 : gT g this = 11) (P_this : P this) (F0 : FrC P [(3, 4), (3, 5), (3, 6), (3, 7), (11, 19)] g h0 h) (hf : pX12_rule_b110 g this p1 p2 h = some (r9, h9)) : FrC P [(3, 4), (3, 5), (3, 6), (3, 7), (11, 19)] g h0 h9 := by
  unfold pX12_rule_b110 at hf
  replace hf := bd2_i hf; obtain ⟨x3, h1, q1, hf⟩ := hf
  have F2 := FrC.trans F0 (pX12_agree_fr F0.1 P_this q1) (by decide)
  replace hf := (bz_i hf).2
  cases hf
  exact F2
set_option maxRecDepth 10000 in
set_option maxHeartbeats 2000000 in
theorem pX12_rule_b77_fr {P : Nat → Prop} {g : MT} {this : Nat} {p1 : Int32} {p2 : Int32} {h : CT} {h0 : CT} {r9 : Int32} {h9 : CT} (t0 : gT g this = 11) (P_this : P this) (F0 : FrC P [(3, 4), (3, 5), (3, 6), (3, 7), (11, 19)] g h0 h) (hf : pX12_rule_b77 g this p1 p2 h = some (r9, h9)) : FrC P [(3, 4), (3, 5), (3, 6), (3, 7), (11, 19)] g h0 h9 := by
  unfold pX12_rule_b77 at hf
  by_cases c1 : p1 = 3
  · rw [if_pos c1] at hf
    by_cases c2 : (pX12_within p2 0 65535) = 0
    · rw [if_pos c2] at hf
      exact pX12_rule_b104_fr t0 P_this F0 hf
    · rw [if_neg c2] at hf
      obtain ⟨r3, e3⟩ : ∃ z, z = (hR h this 4) := ⟨_, rfl⟩; replace hf := lt_i hf r3 e3
      replace hf := nn_i hf; obtain ⟨a3, e4, hf⟩ := hf
      replace hf := tg_i hf; obtain ⟨t5, hf⟩ := hf
      obtain ⟨h5, e6⟩ : ∃ z, z = (sI h a3 4 p2) := ⟨_, rfl⟩; replace hf := lt_i hf h5 e6
      have F7 := FrC.sI F0 ((fun b hb => F0.1 _ _ b P_this (e3.symm.trans hb)) _ e4) t5 (Or.inl (by decide)) e6
      exact pX12_rule_b110_fr t0 P_this F7 hf
  · rw [if_neg c1] at hf
    exact pX12_rule_b104_fr t0 P_this F0 hf
set_option maxRecDepth 10000 in
set_option maxHeartbeats 2000000 in
theorem pX12_rule_b51_fr {P : Nat → Prop} {g : MT} {this : Nat} {p1 : Int32} {p2 : Int32} {h : CT} {h0 : CT} {r9 : Int32} {h9 : CT} (t0 : gT g this = 11) (P_this : P this) (F0 : FrC P [(3, 4), (3, 5), (3, 6), (3, 7), (11, 19)] g h0 h) (hf : pX12_rule_b51 g this p1 p2 h = some (r9, h9)) : FrC P [(3, 4), (3, 5), (3, 6), (3, 7), (11, 19)] g h0 h9 := by
  unfold pX12_rule_b51 at hf
  by_cases c1 : p1 = 2
  · rw [if_pos c1] at hf
    by_cases c2 : (pX12_within p2 1 12) = 0
    · rw [if_pos c2] at hf
      exact pX12_rule_b77_fr t0 P_this F0 hf
    · rw [if_neg c2] at hf
      obtain ⟨r3, e3⟩ : ∃ z, z = (hR h this 4) := ⟨_, rfl⟩; replace hf := lt_i hf r3 e3
      replace hf := nn_i hf; obtain ⟨a3, e4, hf⟩ := hf
      replace hf := tg_i hf; obtain ⟨t5, hf⟩ := hf
      obtain ⟨h5, e6⟩ : ∃ z, z = (sI h a3 7 p2) := ⟨_, rfl⟩; replace hf := lt_i hf h5 e6
      have F7 := FrC.sI F0 ((fun b hb => F0.1 _ _ b P_this (e3.symm.trans hb)) _ e4) t5 (Or.inl (by decide)) e6
      exact pX12_rule_b110_fr t0 P_this F7 hf
  · rw [if_neg c1] at hf
    exact pX12_rule_b77_fr t0 P_this F0 hf
set_option maxRecDepth 10000 in
set_option maxHeartbeats 2000000 in
theorem pX12_rule_b25_fr {P : Nat → Prop} {g : MT} {this : Nat} {p1 : Int32} {p2 : Int32} {h : CT} {h0 : CT} {r9 : Int32} {h9 : CT} (t0 : gT g this = 11) (P_this : P this) (F0 : FrC P [(3, 4), (3, 5), (3, 6), (3, 7), (11, 19)] g h0 h) (hf : pX12_rule_b25 g this p1 p2 h = some (r9, h9)) : FrC P [(3, 4), (3, 5), (3, 6), (3, 7), (11, 19)] g h0 h9 := by
  unfold pX12_rule_b25 at hf
  by_cases c1 : p1 = 1
  · rw [if_pos c1] at hf
    by_cases c2 : (pX12_within p2 1 16) = 0
    · rw [if_pos c2] at hf
      exact pX12_rule_b51_fr t0 P_this F0 hf
    · rw [if_neg c2] at hf
      obtain ⟨r3, e3⟩ : ∃ z, z = (hR h this 4) := ⟨_, rfl⟩; replace hf := lt_i hf r3 e3
      replace hf := nn_i hf; obtain ⟨a3, e4, hf⟩ := hf
      replace hf := tg_i hf; obtain ⟨t5, hf⟩ := hf
      obtain ⟨h5, e6⟩ : ∃ z, z = (sI h a3 6 p2) := ⟨_, rfl⟩; replace hf := lt_i hf h5 e6
      have F7 := FrC.sI F0 ((fun b hb => F0.1 _ _ b P_this (e3.symm.trans hb)) _ e4) t5 (Or.inl (by decide)) e6
      exact pX12_rule_b110_fr t0 P_this F7 hf
  · rw [if_neg c1] at hf
    exact pX12_rule_b51_fr t0 P_this F0 hf
set_option maxRecDepth 10000 in
set_option maxHeartbeats 2000000 in
theorem pX12_rule_fr {P : Nat → Prop} {g : MT} {h : CT} {this : Nat} {p1 : Int32} {p2 : Int32} {r9 : Int32} {h9 : CT} (hc : Cl P h) (P_this : P this) (hf : pX12_rule g h this p1 p2 = some (r9, h9)) : FrC P [(3, 4), (3, 5), (3, 6), (3, 7), (11, 19)] g h h9 := by
  have F0 : FrC P [(3, 4), (3, 5), (3, 6), (3, 7), (11, 19)] g h h := FrC.rf hc
  unfold pX12_rule at hf
  replace hf := tg_i hf; obtain ⟨t1, hf⟩ := hf
  by_cases c2 : p1 = 0
  · rw [if_pos c2] at hf
    by_cases c3 : (pX12_within p2 0 16) = 0
    · rw [if_pos c3] at hf
      exact pX12_rule_b25_fr t1 P_this F0 hf
    · rw [if_neg c3] at hf
      obtain ⟨r3, e4⟩ : ∃ z, z = (hR h this 4) := ⟨_, rfl⟩; replace hf := lt_i hf r3 e4
      replace hf := nn_i hf; obtain ⟨a3, e5, hf⟩ := hf
      replace hf := tg_i hf; obtain ⟨t6, hf⟩ := hf
      obtain ⟨h5, e7⟩ : ∃ z, z = (sI h a3 5 p2) := ⟨_, rfl⟩; replace hf := lt_i hf h5 e7
      have F8 := FrC.sI F0 ((fun b hb => F0.1 _ _ b P_this (e4.symm.trans hb)) _ e5) t6 (Or.inl (by decide)) e7
      exact pX12_rule_b110_fr t1 P_this F8 hf
  · rw [if_neg c2] at hf
    exact pX12_rule_b25_fr t1 P_this F0 hf
set_option maxRecDepth 10000 in
set_option maxHeartbeats 2000000 in
theorem pX12_ran_b37_fr {P : Nat → Prop} {g : MT} {this : Nat} {p1 : Int32} {h : CT} {h0 : CT} {r9 : Int32} {h9 : CT} (t0 : gT g this = 11) (P_this : P this) (F0 : FrC P [(11, 19)] g h0 h) (hf : pX12_ran_b37 g this p1 h = some (r9, h9)) : FrC P [(11, 19)] g h0 h9 := by
  unfold pX12_ran_b37 at hf
  replace hf := bd2_i hf; obtain ⟨x3, h1, q1, hf⟩ := hf
  have F2 := FrC.trans F0 (pX12_refuse_fr F0.1 P_this q1) (by decide)
  cases hf
  exact F2
set_option maxRecDepth 10000 in
set_option maxHeartbeats 2000000 in
theorem pX12_ran_b44_fr {P : Nat → Prop} {g : MT} {this : Nat} {p1 : Int32} {h : CT} {h0 : CT} {r9 : Int32} {h9 : CT} (t0 : gT g this = 11) (P_this : P this) (F0 : FrC P [(11, 19)] g h0 h) (hf : pX12_ran_b44 g this p1 h = some (r9, h9)) : FrC P [(11, 19)] g h0 h9 := by
  unfold pX12_ran_b44 at hf
  by_cases c1 : p1 = 0
  · rw [if_pos c1] at hf
    obtain ⟨r2, e2⟩ : ∃ z, z = (hR h this 8) := ⟨_, rfl⟩; replace hf := lt_i hf r2 e2
    replace hf := nn_i hf; obtain ⟨a2, e3, hf⟩ := hf
    replace hf := tg_i hf; obtain ⟨t4, hf⟩ := hf
    replace hf := bd2_i hf; obtain ⟨x6, h4, q5, hf⟩ := hf
    have F6 := FrC.trans F0 (pX12_answer_fr F0.1 P_this q5) (by decide)
    cases hf
    exact F6
  · rw [if_neg c1] at hf
    by_cases c7 : p1 = 1
    · rw [if_pos c7] at hf
      obtain ⟨r8, e8⟩ : ∃ z, z = (hR h this 8) := ⟨_, rfl⟩; replace hf := lt_i hf r8 e8
      replace hf := nn_i hf; obtain ⟨a8, e9, hf⟩ := hf
      replace hf := tg_i hf; obtain ⟨t10, hf⟩ := hf
      replace hf := bd2_i hf; obtain ⟨x12, h10, q11, hf⟩ := hf
      have F12 := FrC.trans F0 (pX12_answer_fr F0.1 P_this q11) (by decide)
      cases hf
      exact F12
    · rw [if_neg c7] at hf
      by_cases c13 : p1 = 2
      · rw [if_pos c13] at hf
        obtain ⟨r14, e14⟩ : ∃ z, z = (hR h this 8) := ⟨_, rfl⟩; replace hf := lt_i hf r14 e14
        replace hf := nn_i hf; obtain ⟨a14, e15, hf⟩ := hf
        replace hf := tg_i hf; obtain ⟨t16, hf⟩ := hf
        replace hf := bd2_i hf; obtain ⟨x18, h16, q17, hf⟩ := hf
        have F18 := FrC.trans F0 (pX12_answer_fr F0.1 P_this q17) (by decide)
        cases hf
        exact F18
      · rw [if_neg c13] at hf
        by_cases c19 : p1 = 3
        · rw [if_pos c19] at hf
          obtain ⟨r20, e20⟩ : ∃ z, z = (hR h this 8) := ⟨_, rfl⟩; replace hf := lt_i hf r20 e20
          replace hf := nn_i hf; obtain ⟨a20, e21, hf⟩ := hf
          replace hf := tg_i hf; obtain ⟨t22, hf⟩ := hf
          replace hf := bd2_i hf; obtain ⟨x24, h22, q23, hf⟩ := hf
          have F24 := FrC.trans F0 (pX12_answer_fr F0.1 P_this q23) (by decide)
          cases hf
          exact F24
        · rw [if_neg c19] at hf
          by_cases c25 : p1 = 4
          · rw [if_pos c25] at hf
            obtain ⟨r26, e26⟩ : ∃ z, z = (hR h this 8) := ⟨_, rfl⟩; replace hf := lt_i hf r26 e26
            replace hf := nn_i hf; obtain ⟨a26, e27, hf⟩ := hf
            replace hf := tg_i hf; obtain ⟨t28, hf⟩ := hf
            replace hf := bd2_i hf; obtain ⟨x30, h28, q29, hf⟩ := hf
            have F30 := FrC.trans F0 (pX12_answer_fr F0.1 P_this q29) (by decide)
            cases hf
            exact F30
          · rw [if_neg c25] at hf
            obtain ⟨r31, e31⟩ : ∃ z, z = (hR h this 8) := ⟨_, rfl⟩; replace hf := lt_i hf r31 e31
            replace hf := nn_i hf; obtain ⟨a31, e32, hf⟩ := hf
            replace hf := tg_i hf; obtain ⟨t33, hf⟩ := hf
            replace hf := bd2_i hf; obtain ⟨x35, h33, q34, hf⟩ := hf
            have F35 := FrC.trans F0 (pX12_answer_fr F0.1 P_this q34) (by decide)
            cases hf
            exact F35
set_option maxRecDepth 10000 in
set_option maxHeartbeats 2000000 in
theorem pX12_ran_fr {P : Nat → Prop} {g : MT} {h : CT} {this : Nat} {p1 : Int32} {r9 : Int32} {h9 : CT} (hc : Cl P h) (P_this : P this) (hf : pX12_ran g h this p1 = some (r9, h9)) : FrC P [(11, 19)] g h h9 := by
  have F0 : FrC P [(11, 19)] g h h := FrC.rf hc
  unfold pX12_ran at hf
  replace hf := tg_i hf; obtain ⟨t1, hf⟩ := hf
  by_cases c2 : (pX12_within p1 0 5) = 0
  · rw [if_pos c2] at hf
    replace hf := bd2_i hf; obtain ⟨x9, h7, q3, hf⟩ := hf
    have F4 := FrC.trans F0 (pX12_refuse_fr F0.1 P_this q3) (by decide)
    cases hf
    exact F4
  · rw [if_neg c2] at hf
    by_cases c5 : (hI h this 9) = 0
    · rw [if_pos c5] at hf
      exact pX12_ran_b37_fr t1 P_this F0 hf
    · rw [if_neg c5] at hf
      by_cases c6 : p1 ≤ 3
      · rw [if_pos c6] at hf
        exact pX12_ran_b44_fr t1 P_this F0 hf
      · rw [if_neg c6] at hf
        obtain ⟨r4, e7⟩ : ∃ z, z = (hR h this 8) := ⟨_, rfl⟩; replace hf := lt_i hf r4 e7
        replace hf := nn_i hf; obtain ⟨a4, e8, hf⟩ := hf
        replace hf := tg_i hf; obtain ⟨t9, hf⟩ := hf
        by_cases c10 : (hI h a4 3) = 0
        · rw [if_pos c10] at hf
          exact pX12_ran_b37_fr t1 P_this F0 hf
        · rw [if_neg c10] at hf
          exact pX12_ran_b44_fr t1 P_this F0 hf
set_option maxRecDepth 10000 in
set_option maxHeartbeats 2000000 in
theorem pX12_time_b67_fr {P : Nat → Prop} {g : MT} {this : Nat} {p1 : Int32} {p2 : Int32} {h : CT} {h0 : CT} {r9 : Int32} {h9 : CT} (t0 : gT g this = 11) (P_this : P this) (F0 : FrC P [(11, 19)] g h0 h) (hf : pX12_time_b67 g this p1 p2 h = some (r9, h9)) : FrC P [(11, 19)] g h0 h9 := by
  unfold pX12_time_b67 at hf
  replace hf := bd2_i hf; obtain ⟨x3, h1, q1, hf⟩ := hf
  have F2 := FrC.trans F0 (pX12_refuse_fr F0.1 P_this q1) (by decide)
  cases hf
  exact F2
set_option maxRecDepth 10000 in
set_option maxHeartbeats 2000000 in
theorem pX12_time_b54_fr {P : Nat → Prop} {g : MT} {this : Nat} {p1 : Int32} {p2 : Int32} {s0 : Int32} {h : CT} {h0 : CT} {r9 : Int32} {h9 : CT} (t0 : gT g this = 11) (P_this : P this) (F0 : FrC P [(11, 19)] g h0 h) (hf : pX12_time_b54 g this p1 p2 s0 h = some (r9, h9)) : FrC P [(11, 19)] g h0 h9 := by
  unfold pX12_time_b54 at hf
  by_cases c1 : (hI h this 10) = 0
  · rw [if_pos c1] at hf
    exact pX12_time_b67_fr t0 P_this F0 hf
  · rw [if_neg c1] at hf
    by_cases c2 : s0 = (-1)
    · rw [if_pos c2] at hf
      exact pX12_time_b67_fr t0 P_this F0 hf
    · rw [if_neg c2] at hf
      replace hf := bd2_i hf; obtain ⟨x5, h3, q3, hf⟩ := hf
      have F4 := FrC.trans F0 (pX12_answer_fr F0.1 P_this q3) (by decide)
      cases hf
      exact F4
set_option maxRecDepth 10000 in
set_option maxHeartbeats 2000000 in
theorem pX12_time_fr {P : Nat → Prop} {g : MT} {h : CT} {this : Nat} {p1 : Int32} {p2 : Int32} {r9 : Int32} {h9 : CT} (hc : Cl P h) (P_this : P this) (hf : pX12_time g h this p1 p2 = some (r9, h9)) : FrC P [(11, 19)] g h h9 := by
  have F0 : FrC P [(11, 19)] g h h := FrC.rf hc
  unfold pX12_time at hf
  replace hf := tg_i hf; obtain ⟨t1, hf⟩ := hf
  replace hf := bd_i hf; obtain ⟨x1, q2, hf⟩ := hf
  by_cases c3 : x1 = 0
  · rw [if_pos c3] at hf
    replace hf := bd2_i hf; obtain ⟨x21, h19, q4, hf⟩ := hf
    have F5 := FrC.trans F0 (pX12_refuse_fr F0.1 P_this q4) (by decide)
    cases hf
    exact F5
  · rw [if_neg c3] at hf
    by_cases c6 : (pX12_within p2 0 1) = 0
    · rw [if_pos c6] at hf
      replace hf := bd2_i hf; obtain ⟨x18, h16, q7, hf⟩ := hf
      have F8 := FrC.trans F0 (pX12_refuse_fr F0.1 P_this q7) (by decide)
      cases hf
      exact F8
    · rw [if_neg c6] at hf
      by_cases c9 : p2 = 0
      · rw [if_pos c9] at hf
        obtain ⟨r11, e10⟩ : ∃ z, z = (hR h this 8) := ⟨_, rfl⟩; replace hf := lt_i hf r11 e10
        replace hf := nn_i hf; obtain ⟨a11, e11, hf⟩ := hf
        replace hf := tg_i hf; obtain ⟨t12, hf⟩ := hf
        obtain ⟨r13, e13⟩ : ∃ z, z = (hR h a11 6) := ⟨_, rfl⟩; replace hf := lt_i hf r13 e13
        replace hf := nn_i hf; obtain ⟨a13, e14, hf⟩ := hf
        replace hf := tg_i hf; obtain ⟨t15, hf⟩ := hf
        replace hf := (ix_i hf).2
        exact pX12_time_b54_fr t1 P_this F0 hf
      · rw [if_neg c9] at hf
        obtain ⟨r6, e16⟩ : ∃ z, z = (hR h this 8) := ⟨_, rfl⟩; replace hf := lt_i hf r6 e16
        replace hf := nn_i hf; obtain ⟨a6, e17, hf⟩ := hf
        replace hf := tg_i hf; obtain ⟨t18, hf⟩ := hf
        obtain ⟨r8, e19⟩ : ∃ z, z = (hR h a6 7) := ⟨_, rfl⟩; replace hf := lt_i hf r8 e19
        replace hf := nn_i hf; obtain ⟨a8, e20, hf⟩ := hf
        replace hf := tg_i hf; obtain ⟨t21, hf⟩ := hf
        replace hf := (ix_i hf).2
        exact pX12_time_b54_fr t1 P_this F0 hf
set_option maxRecDepth 10000 in
set_option maxHeartbeats 2000000 in
theorem pX12_sumInto_b63_fr {P : Nat → Prop} {g : MT} {this : Nat} {p1 : Nat} {p2 : Int32} {p3 : Int32} {r80 : Option Nat} {r81 : Option Nat} {s2 : Int32} {s3 : Int32} {h : CT} {h0 : CT} {h9 : CT} (t0 : gT g this = 11) (P_this : P this) (P_p1 : P p1) (P_r80 : ∀ b, r80 = some b → P b) (P_r81 : ∀ b, r81 = some b → P b) (F0 : FrC P [(4, 1), (4, 4000), (22, 5000), (24, 1000)] g h0 h) (hf : pX12_sumInto_b63 g this p1 p2 p3 r80 r81 s2 s3 h = some h9) : FrC P [(4, 1), (4, 4000), (22, 5000), (24, 1000)] g h0 h9 := by
  unfold pX12_sumInto_b63 at hf
  replace hf := nn_i hf; obtain ⟨a80, e1, hf⟩ := hf
  replace hf := tg_i hf; obtain ⟨t2, hf⟩ := hf
  replace hf := nn_i hf; obtain ⟨a81, e3, hf⟩ := hf
  replace hf := bd_i hf; obtain ⟨h2, q4, hf⟩ := hf
  have F5 := FrC.trans F0 (pX9_addUp_fr F0.1 (P_r80 _ e1) (P_r81 _ e3) P_p1 q4) (by decide)
  cases hf
  exact F5
set_option maxRecDepth 10000 in
set_option maxHeartbeats 2000000 in
theorem pX12_sumInto_fr {P : Nat → Prop} {g : MT} {h : CT} {this : Nat} {p1 : Nat} {p2 : Int32} {p3 : Int32} {h9 : CT} (hc : Cl P h) (P_this : P this) (P_p1 : P p1) (hf : pX12_sumInto g h this p1 p2 p3 = some h9) : FrC P [(4, 1), (4, 4000), (22, 5000), (24, 1000)] g h h9 := by
  have F0 : FrC P [(4, 1), (4, 4000), (22, 5000), (24, 1000)] g h h := FrC.rf hc
  unfold pX12_sumInto at hf
  replace hf := tg_i hf; obtain ⟨t1, hf⟩ := hf
  by_cases c2 : p3 = 2
  · rw [if_pos c2] at hf
    obtain ⟨r12, e3⟩ : ∃ z, z = (hR h this 7) := ⟨_, rfl⟩; replace hf := lt_i hf r12 e3
    obtain ⟨r13, e4⟩ : ∃ z, z = (hR h this 4) := ⟨_, rfl⟩; replace hf := lt_i hf r13 e4
    replace hf := nn_i hf; obtain ⟨a13, e5, hf⟩ := hf
    replace hf := tg_i hf; obtain ⟨t6, hf⟩ := hf
    obtain ⟨r15, e7⟩ : ∃ z, z = (hR h a13 0) := ⟨_, rfl⟩; replace hf := lt_i hf r15 e7
    replace hf := nn_i hf; obtain ⟨a15, e8, hf⟩ := hf
    replace hf := tg_i hf; obtain ⟨t9, hf⟩ := hf
    replace hf := (ix_i hf).2
    obtain ⟨r18, e10⟩ : ∃ z, z = (hR h a15 (Int32.toNatClampNeg p2)) := ⟨_, rfl⟩; replace hf := lt_i hf r18 e10
    obtain ⟨r19, e11⟩ : ∃ z, z = (hR h this 4) := ⟨_, rfl⟩; replace hf := lt_i hf r19 e11
    replace hf := nn_i hf; obtain ⟨a19, e12, hf⟩ := hf
    replace hf := tg_i hf; obtain ⟨t13, hf⟩ := hf
    replace hf := nn_i hf; obtain ⟨a12, e14, hf⟩ := hf
    replace hf := tg_i hf; obtain ⟨t15, hf⟩ := hf
    replace hf := nn_i hf; obtain ⟨a18, e16, hf⟩ := hf
    replace hf := bd_i hf; obtain ⟨h22, q17, hf⟩ := hf
    have F18 := FrC.trans F0 (pX9_halve_fr F0.1 ((fun b hb => F0.1 _ _ b P_this (e3.symm.trans hb)) _ e14) ((fun b hb => F0.1 _ _ b ((fun b hb => F0.1 _ _ b ((fun b hb => F0.1 _ _ b P_this (e4.symm.trans hb)) _ e5) (e7.symm.trans hb)) _ e8) (e10.symm.trans hb)) _ e16) P_p1 q17) (by decide)
    cases hf
    exact F18
  · rw [if_neg c2] at hf
    obtain ⟨r2, e19⟩ : ∃ z, z = (hR h this 7) := ⟨_, rfl⟩; replace hf := lt_i hf r2 e19
    obtain ⟨r3, e20⟩ : ∃ z, z = (hR h this 4) := ⟨_, rfl⟩; replace hf := lt_i hf r3 e20
    replace hf := nn_i hf; obtain ⟨a3, e21, hf⟩ := hf
    replace hf := tg_i hf; obtain ⟨t22, hf⟩ := hf
    obtain ⟨r5, e23⟩ : ∃ z, z = (hR h a3 0) := ⟨_, rfl⟩; replace hf := lt_i hf r5 e23
    replace hf := nn_i hf; obtain ⟨a5, e24, hf⟩ := hf
    replace hf := tg_i hf; obtain ⟨t25, hf⟩ := hf
    replace hf := (ix_i hf).2
    obtain ⟨r8, e26⟩ : ∃ z, z = (hR h a5 (Int32.toNatClampNeg p2)) := ⟨_, rfl⟩; replace hf := lt_i hf r8 e26
    obtain ⟨r9, e27⟩ : ∃ z, z = (hR h this 4) := ⟨_, rfl⟩; replace hf := lt_i hf r9 e27
    replace hf := nn_i hf; obtain ⟨a9, e28, hf⟩ := hf
    replace hf := tg_i hf; obtain ⟨t29, hf⟩ := hf
    by_cases c30 : p3 = 1
    · rw [if_pos c30] at hf
      exact pX12_sumInto_b63_fr t1 P_this P_p1 (fun b hb => F0.1 _ _ b P_this (e19.symm.trans hb)) (fun b hb => F0.1 _ _ b ((fun b hb => F0.1 _ _ b ((fun b hb => F0.1 _ _ b P_this (e20.symm.trans hb)) _ e21) (e23.symm.trans hb)) _ e24) (e26.symm.trans hb)) F0 hf
    · rw [if_neg c30] at hf
      exact pX12_sumInto_b63_fr t1 P_this P_p1 (fun b hb => F0.1 _ _ b P_this (e19.symm.trans hb)) (fun b hb => F0.1 _ _ b ((fun b hb => F0.1 _ _ b ((fun b hb => F0.1 _ _ b P_this (e20.symm.trans hb)) _ e21) (e23.symm.trans hb)) _ e24) (e26.symm.trans hb)) F0 hf
set_option maxRecDepth 10000 in
set_option maxHeartbeats 2000000 in
theorem pX12_sums_b115_fr {P : Nat → Prop} {g : MT} {this : Nat} {p1 : Int32} {s0 : Nat} {s1 : Int32} {s2 : Int32} {h : CT} {h0 : CT} {r9 : Int32} {h9 : CT} (t0 : gT g this = 11) (P_this : P this) (P_s0 : P s0) (F0 : FrC P [(4, 1), (4, 4000), (11, 19), (22, 5000), (24, 1000)] g h0 h) (hf : pX12_sums_b115 g this p1 s0 s1 s2 h = some (r9, h9)) : FrC P [(4, 1), (4, 4000), (11, 19), (22, 5000), (24, 1000)] g h0 h9 := by
  unfold pX12_sums_b115 at hf
  replace hf := tg_i hf; obtain ⟨t1, hf⟩ := hf
  replace hf := bd2_i hf; obtain ⟨x4, h2, q2, hf⟩ := hf
  have F3 := FrC.trans F0 (pX12_answer_fr F0.1 P_s0 q2) (by decide)
  cases hf
  exact F3
set_option maxRecDepth 10000 in
set_option maxHeartbeats 2000000 in
theorem pX12_sums_b104_fr {P : Nat → Prop} {g : MT} {this : Nat} {p1 : Int32} {l4 : Int32} {s0 : Nat} {s1 : Int32} {s2 : Int32} {h : CT} {h0 : CT} {r9 : Int32} {h9 : CT} (t0 : gT g this = 11) (P_this : P this) (P_s0 : P s0) (F0 : FrC P [(4, 1), (4, 4000), (11, 19), (22, 5000), (24, 1000)] g h0 h) (hf : pX12_sums_b104 g this p1 l4 s0 s1 s2 h = some (r9, h9)) : FrC P [(4, 1), (4, 4000), (11, 19), (22, 5000), (24, 1000)] g h0 h9 := by
  unfold pX12_sums_b104 at hf
  by_cases c1 : l4 = 0
  · rw [if_pos c1] at hf
    exact pX12_sums_b115_fr t0 P_this P_s0 F0 hf
  · rw [if_neg c1] at hf
    exact pX12_sums_b115_fr t0 P_this P_s0 F0 hf
set_option maxRecDepth 10000 in
set_option maxHeartbeats 2000000 in
theorem pX12_sums_b91_fr {P : Nat → Prop} {g : MT} {this : Nat} {p1 : Int32} {l3 : Int32} {s0 : Int32} {h : CT} {h0 : CT} {r9 : Int32} {h9 : CT} (t0 : gT g this = 11) (P_this : P this) (F0 : FrC P [(4, 1), (4, 4000), (11, 19), (22, 5000), (24, 1000)] g h0 h) (hf : pX12_sums_b91 g this p1 l3 s0 h = some (r9, h9)) : FrC P [(4, 1), (4, 4000), (11, 19), (22, 5000), (24, 1000)] g h0 h9 := by
  unfold pX12_sums_b91 at hf
  by_cases c1 : l3 = 0
  · rw [if_pos c1] at hf
    exact pX12_sums_b104_fr t0 P_this P_this F0 hf
  · rw [if_neg c1] at hf
    exact pX12_sums_b104_fr t0 P_this P_this F0 hf
set_option maxRecDepth 10000 in
set_option maxHeartbeats 2000000 in
theorem pX12_sums_b86_fr {P : Nat → Prop} {g : MT} {this : Nat} {p1 : Int32} {l3 : Int32} {h : CT} {h0 : CT} {r9 : Int32} {h9 : CT} (t0 : gT g this = 11) (P_this : P this) (F0 : FrC P [(4, 1), (4, 4000), (11, 19), (22, 5000), (24, 1000)] g h0 h) (hf : pX12_sums_b86 g this p1 l3 h = some (r9, h9)) : FrC P [(4, 1), (4, 4000), (11, 19), (22, 5000), (24, 1000)] g h0 h9 := by
  unfold pX12_sums_b86 at hf
  exact pX12_sums_b91_fr t0 P_this F0 hf
set_option maxRecDepth 10000 in
set_option maxHeartbeats 2000000 in
theorem pX12_sums_fr {P : Nat → Prop} {g : MT} {h : CT} {this : Nat} {p1 : Int32} {r9 : Int32} {h9 : CT} (hc : Cl P h) (P_this : P this) (hf : pX12_sums g h this p1 = some (r9, h9)) : FrC P [(4, 1), (4, 4000), (11, 19), (22, 5000), (24, 1000)] g h h9 := by
  have F0 : FrC P [(4, 1), (4, 4000), (11, 19), (22, 5000), (24, 1000)] g h h := FrC.rf hc
  unfold pX12_sums at hf
  replace hf := tg_i hf; obtain ⟨t1, hf⟩ := hf
  replace hf := bd_i hf; obtain ⟨x1, q2, hf⟩ := hf
  by_cases c3 : x1 = 0
  · rw [if_pos c3] at hf
    obtain ⟨r4, e4⟩ : ∃ z, z = (hR h this 16) := ⟨_, rfl⟩; replace hf := lt_i hf r4 e4
    replace hf := nn_i hf; obtain ⟨a4, e5, hf⟩ := hf
    replace hf := bd_i hf; obtain ⟨h5, q6, hf⟩ := hf
    have F7 := FrC.trans F0 (pX12_sumInto_fr F0.1 P_this ((fun b hb => F0.1 _ _ b P_this (e4.symm.trans hb)) _ e5) q6) (by decide)
    obtain ⟨r7, e8⟩ : ∃ z, z = (hR h5 this 17) := ⟨_, rfl⟩; replace hf := lt_i hf r7 e8
    replace hf := nn_i hf; obtain ⟨a7, e9, hf⟩ := hf
    replace hf := bd_i hf; obtain ⟨h8, q10, hf⟩ := hf
    have F11 := FrC.trans F7 (pX12_sumInto_fr F7.1 P_this ((fun b hb => F7.1 _ _ b P_this (e8.symm.trans hb)) _ e9) q10) (by decide)
    obtain ⟨r10, e12⟩ : ∃ z, z = (hR h8 this 16) := ⟨_, rfl⟩; replace hf := lt_i hf r10 e12
    obtain ⟨r11, e13⟩ : ∃ z, z = (hR h8 this 17) := ⟨_, rfl⟩; replace hf := lt_i hf r11 e13
    replace hf := nn_i hf; obtain ⟨a10, e14, hf⟩ := hf
    replace hf := tg_i hf; obtain ⟨t15, hf⟩ := hf
    replace hf := nn_i hf; obtain ⟨a11, e16, hf⟩ := hf
    replace hf := bd_i hf; obtain ⟨x13, q17, hf⟩ := hf
    obtain ⟨r15, e18⟩ : ∃ z, z = (hR h8 this 18) := ⟨_, rfl⟩; replace hf := lt_i hf r15 e18
    replace hf := nn_i hf; obtain ⟨a15, e19, hf⟩ := hf
    replace hf := bd_i hf; obtain ⟨h16, q20, hf⟩ := hf
    have F21 := FrC.trans F11 (pX12_sumInto_fr F11.1 P_this ((fun b hb => F11.1 _ _ b P_this (e18.symm.trans hb)) _ e19) q20) (by decide)
    obtain ⟨r18, e22⟩ : ∃ z, z = (hR h16 this 18) := ⟨_, rfl⟩; replace hf := lt_i hf r18 e22
    obtain ⟨r19, e23⟩ : ∃ z, z = (hR h16 this 16) := ⟨_, rfl⟩; replace hf := lt_i hf r19 e23
    replace hf := nn_i hf; obtain ⟨a18, e24, hf⟩ := hf
    replace hf := tg_i hf; obtain ⟨t25, hf⟩ := hf
    replace hf := nn_i hf; obtain ⟨a19, e26, hf⟩ := hf
    replace hf := bd_i hf; obtain ⟨x21, q27, hf⟩ := hf
    by_cases c28 : x21 = 0
    · rw [if_pos c28] at hf
      obtain ⟨r24, e29⟩ : ∃ z, z = (hR h16 this 18) := ⟨_, rfl⟩; replace hf := lt_i hf r24 e29
      obtain ⟨r25, e30⟩ : ∃ z, z = (hR h16 this 17) := ⟨_, rfl⟩; replace hf := lt_i hf r25 e30
      replace hf := nn_i hf; obtain ⟨a24, e31, hf⟩ := hf
      replace hf := tg_i hf; obtain ⟨t32, hf⟩ := hf
      replace hf := nn_i hf; obtain ⟨a25, e33, hf⟩ := hf
      replace hf := bd_i hf; obtain ⟨x27, q34, hf⟩ := hf
      by_cases c35 : x27 = 0
      · rw [if_pos c35] at hf
        exact pX12_sums_b91_fr t1 P_this F21 hf
      · rw [if_neg c35] at hf
        exact pX12_sums_b86_fr t1 P_this F21 hf
    · rw [if_neg c28] at hf
      exact pX12_sums_b86_fr t1 P_this F21 hf
  · rw [if_neg c3] at hf
    replace hf := bd2_i hf; obtain ⟨x32, h30, q36, hf⟩ := hf
    have F37 := FrC.trans F0 (pX12_refuse_fr F0.1 P_this q36) (by decide)
    cases hf
    exact F37
set_option maxRecDepth 10000 in
set_option maxHeartbeats 2000000 in
theorem pX12_roundOf_b53_fr {P : Nat → Prop} {g : MT} {this : Nat} {p1 : Int32} {p2 : Int32} {l4 : Int32} {h : CT} {h0 : CT} {r9 : Int32} {h9 : CT} (t0 : gT g this = 11) (P_this : P this) (F0 : FrC P [(11, 19)] g h0 h) (hf : pX12_roundOf_b53 g this p1 p2 l4 h = some (r9, h9)) : FrC P [(11, 19)] g h0 h9 := by
  unfold pX12_roundOf_b53 at hf
  replace hf := bd2_i hf; obtain ⟨x3, h1, q1, hf⟩ := hf
  have F2 := FrC.trans F0 (pX12_answer_fr F0.1 P_this q1) (by decide)
  cases hf
  exact F2
set_option maxRecDepth 10000 in
set_option maxHeartbeats 2000000 in
theorem pX12_roundOf_b26_fr {P : Nat → Prop} {g : MT} {this : Nat} {p1 : Int32} {p2 : Int32} {k26 : Int32 → Int32 → CT → Option ((Int32) × CT)} {l4 : Int32} {l5 : Int32} {h : CT} {h0 : CT} {r9 : Int32} {h9 : CT} (t0 : gT g this = 11) (P_this : P this) (hk26 : ∀ (v0 : Int32) (v1 : Int32) (v2 : CT), FrC P [(11, 19)] g h0 v2 → k26 v0 v1 v2 = some (r9, h9) → FrC P [(11, 19)] g h0 h9) (F0 : FrC P [(11, 19)] g h0 h) (hf : pX12_roundOf_b26 g this p1 p2 k26 l4 l5 h = some (r9, h9)) : FrC P [(11, 19)] g h0 h9 := by
  unfold pX12_roundOf_b26 at hf
  by_cases c1 : l5 ≤ p2
  · rw [if_pos c1] at hf
    exact pX12_roundOf_b53_fr t0 P_this F0 hf
  · rw [if_neg c1] at hf
    by_cases c2 : 16 ≤ l4
    · rw [if_pos c2] at hf
      exact pX12_roundOf_b53_fr t0 P_this F0 hf
    · rw [if_neg c2] at hf
      obtain ⟨x3, e3⟩ : ∃ z, z = ((l5 + 1) / 2) := ⟨_, rfl⟩; replace hf := lt_i hf x3 e3
      obtain ⟨x4, e4⟩ : ∃ z, z = (l4 + 1) := ⟨_, rfl⟩; replace hf := lt_i hf x4 e4
      exact hk26 _ _ _ F0 hf
set_option maxRecDepth 10000 in
set_option maxHeartbeats 2000000 in
theorem pX12_roundOf_l26_fr {P : Nat → Prop} {g : MT} {this : Nat} {p1 : Int32} {p2 : Int32} {h0 : CT} {r9 : Int32} {h9 : CT} (t0 : gT g this = 11) (P_this : P this) : ∀ (n : Nat) (v1 : Int32) (v2 : Int32) (v3 : CT), FrC P [(11, 19)] g h0 v3 → pX12_roundOf_l26 g this p1 p2 n v1 v2 v3 = some (r9, h9) → FrC P [(11, 19)] g h0 h9 := by
  intro n
  induction n with
  | zero => intro v1 v2 v3 F0 hf; cases hf
  | succ n ih => intro v1 v2 v3 F0 hf; exact pX12_roundOf_b26_fr t0 P_this ih F0 hf
set_option maxRecDepth 10000 in
set_option maxHeartbeats 2000000 in
theorem pX12_roundOf_fr {P : Nat → Prop} {g : MT} {h : CT} {this : Nat} {p1 : Int32} {p2 : Int32} {r9 : Int32} {h9 : CT} (hc : Cl P h) (P_this : P this) (hf : pX12_roundOf g h this p1 p2 = some (r9, h9)) : FrC P [(11, 19)] g h h9 := by
  have F0 : FrC P [(11, 19)] g h h := FrC.rf hc
  unfold pX12_roundOf at hf
  replace hf := tg_i hf; obtain ⟨t1, hf⟩ := hf
  obtain ⟨x1, e2⟩ : ∃ z, z = (pX12_halvingTrouble p1 p2) := ⟨_, rfl⟩; replace hf := lt_i hf x1 e2
  by_cases c3 : x1 = 0
  · rw [if_pos c3] at hf
    obtain ⟨x3, e4⟩ : ∃ z, z = ((p1 + 1) / 2) := ⟨_, rfl⟩; replace hf := lt_i hf x3 e4
    exact pX12_roundOf_l26_fr t1 P_this _ _ _ _ F0 hf
  · rw [if_neg c3] at hf
    replace hf := bd2_i hf; obtain ⟨x6, h4, q5, hf⟩ := hf
    have F6 := FrC.trans F0 (pX12_refuse_fr F0.1 P_this q5) (by decide)
    cases hf
    exact F6
set_option maxRecDepth 10000 in
set_option maxHeartbeats 2000000 in
theorem pX12_partnerOf_b53_fr {P : Nat → Prop} {g : MT} {this : Nat} {p1 : Int32} {p2 : Int32} {l4 : Int32} {h : CT} {h0 : CT} {r9 : Int32} {h9 : CT} (t0 : gT g this = 11) (P_this : P this) (F0 : FrC P [(11, 19)] g h0 h) (hf : pX12_partnerOf_b53 g this p1 p2 l4 h = some (r9, h9)) : FrC P [(11, 19)] g h0 h9 := by
  unfold pX12_partnerOf_b53 at hf
  replace hf := bd2_i hf; obtain ⟨x3, h1, q1, hf⟩ := hf
  have F2 := FrC.trans F0 (pX12_answer_fr F0.1 P_this q1) (by decide)
  cases hf
  exact F2
set_option maxRecDepth 10000 in
set_option maxHeartbeats 2000000 in
theorem pX12_partnerOf_b26_fr {P : Nat → Prop} {g : MT} {this : Nat} {p1 : Int32} {p2 : Int32} {k26 : Int32 → Int32 → CT → Option ((Int32) × CT)} {l4 : Int32} {l5 : Int32} {h : CT} {h0 : CT} {r9 : Int32} {h9 : CT} (t0 : gT g this = 11) (P_this : P this) (hk26 : ∀ (v0 : Int32) (v1 : Int32) (v2 : CT), FrC P [(11, 19)] g h0 v2 → k26 v0 v1 v2 = some (r9, h9) → FrC P [(11, 19)] g h0 h9) (F0 : FrC P [(11, 19)] g h0 h) (hf : pX12_partnerOf_b26 g this p1 p2 k26 l4 l5 h = some (r9, h9)) : FrC P [(11, 19)] g h0 h9 := by
  unfold pX12_partnerOf_b26 at hf
  by_cases c1 : l4 ≤ p2
  · rw [if_pos c1] at hf
    exact pX12_partnerOf_b53_fr t0 P_this F0 hf
  · rw [if_neg c1] at hf
    by_cases c2 : 16 ≤ l5
    · rw [if_pos c2] at hf
      exact pX12_partnerOf_b53_fr t0 P_this F0 hf
    · rw [if_neg c2] at hf
      obtain ⟨x3, e3⟩ : ∃ z, z = ((l4 + 1) / 2) := ⟨_, rfl⟩; replace hf := lt_i hf x3 e3
      obtain ⟨x4, e4⟩ : ∃ z, z = (l5 + 1) := ⟨_, rfl⟩; replace hf := lt_i hf x4 e4
      exact hk26 _ _ _ F0 hf
set_option maxRecDepth 10000 in
set_option maxHeartbeats 2000000 in
theorem pX12_partnerOf_l26_fr {P : Nat → Prop} {g : MT} {this : Nat} {p1 : Int32} {p2 : Int32} {h0 : CT} {r9 : Int32} {h9 : CT} (t0 : gT g this = 11) (P_this : P this) : ∀ (n : Nat) (v1 : Int32) (v2 : Int32) (v3 : CT), FrC P [(11, 19)] g h0 v3 → pX12_partnerOf_l26 g this p1 p2 n v1 v2 v3 = some (r9, h9) → FrC P [(11, 19)] g h0 h9 := by
  intro n
  induction n with
  | zero => intro v1 v2 v3 F0 hf; cases hf
  | succ n ih => intro v1 v2 v3 F0 hf; exact pX12_partnerOf_b26_fr t0 P_this ih F0 hf
set_option maxRecDepth 10000 in
set_option maxHeartbeats 2000000 in
theorem pX12_partnerOf_fr {P : Nat → Prop} {g : MT} {h : CT} {this : Nat} {p1 : Int32} {p2 : Int32} {r9 : Int32} {h9 : CT} (hc : Cl P h) (P_this : P this) (hf : pX12_partnerOf g h this p1 p2 = some (r9, h9)) : FrC P [(11, 19)] g h h9 := by
  have F0 : FrC P [(11, 19)] g h h := FrC.rf hc
  unfold pX12_partnerOf at hf
  replace hf := tg_i hf; obtain ⟨t1, hf⟩ := hf
  obtain ⟨x1, e2⟩ : ∃ z, z = (pX12_halvingTrouble p1 p2) := ⟨_, rfl⟩; replace hf := lt_i hf x1 e2
  by_cases c3 : x1 = 0
  · rw [if_pos c3] at hf
    obtain ⟨x3, e4⟩ : ∃ z, z = ((p1 + 1) / 2) := ⟨_, rfl⟩; replace hf := lt_i hf x3 e4
    exact pX12_partnerOf_l26_fr t1 P_this _ _ _ _ F0 hf
  · rw [if_neg c3] at hf
    replace hf := bd2_i hf; obtain ⟨x6, h4, q5, hf⟩ := hf
    have F6 := FrC.trans F0 (pX12_refuse_fr F0.1 P_this q5) (by decide)
    cases hf
    exact F6
set_option maxRecDepth 10000 in
set_option maxHeartbeats 2000000 in
theorem pX12_stalls_fr {P : Nat → Prop} {g : MT} {h : CT} {this : Nat} {p1 : Int32} {p2 : Int32} {p3 : Int32} {r9 : Int32} {h9 : CT} (hc : Cl P h) (P_this : P this) (hf : pX12_stalls g h this p1 p2 p3 = some (r9, h9)) : FrC P [(9, 1), (11, 19), (20, 1000)] g h h9 := by
  have F0 : FrC P [(9, 1), (11, 19), (20, 1000)] g h h := FrC.rf hc
  unfold pX12_stalls at hf
  replace hf := tg_i hf; obtain ⟨t1, hf⟩ := hf
  obtain ⟨x1, e2⟩ : ∃ z, z = (pX12_aloneTrouble this p1 p2 p3) := ⟨_, rfl⟩; replace hf := lt_i hf x1 e2
  by_cases c3 : x1 = 0
  · rw [if_pos c3] at hf
    obtain ⟨r3, e4⟩ : ∃ z, z = (hR h this 13) := ⟨_, rfl⟩; replace hf := lt_i hf r3 e4
    obtain ⟨r4, e5⟩ : ∃ z, z = (hR h this 4) := ⟨_, rfl⟩; replace hf := lt_i hf r4 e5
    replace hf := nn_i hf; obtain ⟨a4, e6, hf⟩ := hf
    replace hf := tg_i hf; obtain ⟨t7, hf⟩ := hf
    obtain ⟨r6, e8⟩ : ∃ z, z = (hR h this 4) := ⟨_, rfl⟩; replace hf := lt_i hf r6 e8
    replace hf := nn_i hf; obtain ⟨a6, e9, hf⟩ := hf
    replace hf := tg_i hf; obtain ⟨t10, hf⟩ := hf
    replace hf := nn_i hf; obtain ⟨a3, e11, hf⟩ := hf
    replace hf := tg_i hf; obtain ⟨t12, hf⟩ := hf
    replace hf := bd2_i hf; obtain ⟨x11, h9, q13, hf⟩ := hf
    have F14 := FrC.trans F0 (pX10_stallsAlone_fr F0.1 ((fun b hb => F0.1 _ _ b P_this (e4.symm.trans hb)) _ e11) q13) (by decide)
    replace hf := bd2_i hf; obtain ⟨x14, h12, q15, hf⟩ := hf
    have F16 := FrC.trans F14 (pX12_answer_fr F14.1 P_this q15) (by decide)
    cases hf
    exact F16
  · rw [if_neg c3] at hf
    replace hf := bd2_i hf; obtain ⟨x17, h15, q17, hf⟩ := hf
    have F18 := FrC.trans F0 (pX12_refuse_fr F0.1 P_this q17) (by decide)
    cases hf
    exact F18
set_option maxRecDepth 10000 in
set_option maxHeartbeats 2000000 in
theorem pX12_banksFor_b24_fr {P : Nat → Prop} {g : MT} {this : Nat} {p1 : Int32} {p2 : Int32} {p3 : Int32} {k24 : Int32 → CT → Option ((Int32) × CT)} {l5 : Int32} {h : CT} {h0 : CT} {r9 : Int32} {h9 : CT} (t0 : gT g this = 11) (P_this : P this) (hk24 : ∀ (v0 : Int32) (v1 : CT), FrC P [(9, 1), (11, 19), (20, 1000)] g h0 v1 → k24 v0 v1 = some (r9, h9) → FrC P [(9, 1), (11, 19), (20, 1000)] g h0 h9) (F0 : FrC P [(9, 1), (11, 19), (20, 1000)] g h0 h) (hf : pX12_banksFor_b24 g this p1 p2 p3 k24 l5 h = some (r9, h9)) : FrC P [(9, 1), (11, 19), (20, 1000)] g h0 h9 := by
  unfold pX12_banksFor_b24 at hf
  by_cases c1 : 16 < l5
  · rw [if_pos c1] at hf
    replace hf := bd2_i hf; obtain ⟨x4, h2, q2, hf⟩ := hf
    have F3 := FrC.trans F0 (pX12_refuse_fr F0.1 P_this q2) (by decide)
    cases hf
    exact F3
  · rw [if_neg c1] at hf
    obtain ⟨r5, e4⟩ : ∃ z, z = (hR h this 13) := ⟨_, rfl⟩; replace hf := lt_i hf r5 e4
    obtain ⟨r6, e5⟩ : ∃ z, z = (hR h this 4) := ⟨_, rfl⟩; replace hf := lt_i hf r6 e5
    replace hf := nn_i hf; obtain ⟨a6, e6, hf⟩ := hf
    replace hf := tg_i hf; obtain ⟨t7, hf⟩ := hf
    replace hf := nn_i hf; obtain ⟨a5, e8, hf⟩ := hf
    replace hf := tg_i hf; obtain ⟨t9, hf⟩ := hf
    replace hf := bd2_i hf; obtain ⟨x11, h9, q10, hf⟩ := hf
    have F11 := FrC.trans F0 (pX10_stallsAlone_fr F0.1 ((fun b hb => F0.1 _ _ b P_this (e4.symm.trans hb)) _ e8) q10) (by decide)
    by_cases c12 : x11 = 0
    · rw [if_pos c12] at hf
      replace hf := bd2_i hf; obtain ⟨x16, h14, q13, hf⟩ := hf
      have F14 := FrC.trans F11 (pX12_answer_fr F11.1 P_this q13) (by decide)
      cases hf
      exact F14
    · rw [if_neg c12] at hf
      obtain ⟨x13, e15⟩ : ∃ z, z = (l5 + 1) := ⟨_, rfl⟩; replace hf := lt_i hf x13 e15
      exact hk24 _ _ F11 hf
set_option maxRecDepth 10000 in
set_option maxHeartbeats 2000000 in
theorem pX12_banksFor_l24_fr {P : Nat → Prop} {g : MT} {this : Nat} {p1 : Int32} {p2 : Int32} {p3 : Int32} {h0 : CT} {r9 : Int32} {h9 : CT} (t0 : gT g this = 11) (P_this : P this) : ∀ (n : Nat) (v1 : Int32) (v2 : CT), FrC P [(9, 1), (11, 19), (20, 1000)] g h0 v2 → pX12_banksFor_l24 g this p1 p2 p3 n v1 v2 = some (r9, h9) → FrC P [(9, 1), (11, 19), (20, 1000)] g h0 h9 := by
  intro n
  induction n with
  | zero => intro v1 v2 F0 hf; cases hf
  | succ n ih => intro v1 v2 F0 hf; exact pX12_banksFor_b24_fr t0 P_this ih F0 hf
set_option maxRecDepth 10000 in
set_option maxHeartbeats 2000000 in
theorem pX12_banksFor_fr {P : Nat → Prop} {g : MT} {h : CT} {this : Nat} {p1 : Int32} {p2 : Int32} {p3 : Int32} {r9 : Int32} {h9 : CT} (hc : Cl P h) (P_this : P this) (hf : pX12_banksFor g h this p1 p2 p3 = some (r9, h9)) : FrC P [(9, 1), (11, 19), (20, 1000)] g h h9 := by
  have F0 : FrC P [(9, 1), (11, 19), (20, 1000)] g h h := FrC.rf hc
  unfold pX12_banksFor at hf
  replace hf := tg_i hf; obtain ⟨t1, hf⟩ := hf
  obtain ⟨x1, e2⟩ : ∃ z, z = (pX12_aloneTrouble this p1 p2 p3) := ⟨_, rfl⟩; replace hf := lt_i hf x1 e2
  by_cases c3 : x1 = 0
  · rw [if_pos c3] at hf
    exact pX12_banksFor_l24_fr t1 P_this _ _ _ F0 hf
  · rw [if_neg c3] at hf
    replace hf := bd2_i hf; obtain ⟨x5, h3, q4, hf⟩ := hf
    have F5 := FrC.trans F0 (pX12_refuse_fr F0.1 P_this q4) (by decide)
    cases hf
    exact F5
set_option maxRecDepth 10000 in
set_option maxHeartbeats 2000000 in
theorem pX12_worst_b76_fr {P : Nat → Prop} {g : MT} {this : Nat} {p1 : Int32} {p2 : Int32} {k27 : Int32 → Int32 → Int32 → CT → Option ((Int32) × CT)} {l4 : Int32} {l5 : Int32} {l6 : Int32} {h : CT} {h0 : CT} {r9 : Int32} {h9 : CT} (t0 : gT g this = 11) (P_this : P this) (hk27 : ∀ (v0 : Int32) (v1 : Int32) (v2 : Int32) (v3 : CT), FrC P [(9, 1), (11, 19), (20, 1000)] g h0 v3 → k27 v0 v1 v2 v3 = some (r9, h9) → FrC P [(9, 1), (11, 19), (20, 1000)] g h0 h9) (F0 : FrC P [(9, 1), (11, 19), (20, 1000)] g h0 h) (hf : pX12_worst_b76 g this p1 p2 k27 l4 l5 l6 h = some (r9, h9)) : FrC P [(9, 1), (11, 19), (20, 1000)] g h0 h9 := by
  unfold pX12_worst_b76 at hf
  obtain ⟨x1, e1⟩ : ∃ z, z = (l6 + 1) := ⟨_, rfl⟩; replace hf := lt_i hf x1 e1
  exact hk27 _ _ _ _ F0 hf
set_option maxRecDepth 10000 in
set_option maxHeartbeats 2000000 in
theorem pX12_worst_b27_fr {P : Nat → Prop} {g : MT} {this : Nat} {p1 : Int32} {p2 : Int32} {k27 : Int32 → Int32 → Int32 → CT → Option ((Int32) × CT)} {l4 : Int32} {l5 : Int32} {l6 : Int32} {h : CT} {h0 : CT} {r9 : Int32} {h9 : CT} (t0 : gT g this = 11) (P_this : P this) (hk27 : ∀ (v0 : Int32) (v1 : Int32) (v2 : Int32) (v3 : CT), FrC P [(9, 1), (11, 19), (20, 1000)] g h0 v3 → k27 v0 v1 v2 v3 = some (r9, h9) → FrC P [(9, 1), (11, 19), (20, 1000)] g h0 h9) (F0 : FrC P [(9, 1), (11, 19), (20, 1000)] g h0 h) (hf : pX12_worst_b27 g this p1 p2 k27 l4 l5 l6 h = some (r9, h9)) : FrC P [(9, 1), (11, 19), (20, 1000)] g h0 h9 := by
  unfold pX12_worst_b27 at hf
  by_cases c1 : 16 < l6
  · rw [if_pos c1] at hf
    replace hf := bd2_i hf; obtain ⟨x4, h2, q2, hf⟩ := hf
    have F3 := FrC.trans F0 (pX12_answer_fr F0.1 P_this q2) (by decide)
    cases hf
    exact F3
  · rw [if_neg c1] at hf
    obtain ⟨r5, e4⟩ : ∃ z, z = (hR h this 13) := ⟨_, rfl⟩; replace hf := lt_i hf r5 e4
    obtain ⟨r6, e5⟩ : ∃ z, z = (hR h this 4) := ⟨_, rfl⟩; replace hf := lt_i hf r6 e5
    replace hf := nn_i hf; obtain ⟨a6, e6, hf⟩ := hf
    replace hf := tg_i hf; obtain ⟨t7, hf⟩ := hf
    obtain ⟨r8, e8⟩ : ∃ z, z = (hR h this 4) := ⟨_, rfl⟩; replace hf := lt_i hf r8 e8
    replace hf := nn_i hf; obtain ⟨a8, e9, hf⟩ := hf
    replace hf := tg_i hf; obtain ⟨t10, hf⟩ := hf
    replace hf := nn_i hf; obtain ⟨a5, e11, hf⟩ := hf
    replace hf := tg_i hf; obtain ⟨t12, hf⟩ := hf
    replace hf := bd2_i hf; obtain ⟨x13, h11, q13, hf⟩ := hf
    have F14 := FrC.trans F0 (pX10_stallsAlone_fr F0.1 ((fun b hb => F0.1 _ _ b P_this (e4.symm.trans hb)) _ e11) q13) (by decide)
    by_cases c15 : x13 ≤ l5
    · rw [if_pos c15] at hf
      exact pX12_worst_b76_fr t0 P_this hk27 F14 hf
    · rw [if_neg c15] at hf
      exact pX12_worst_b76_fr t0 P_this hk27 F14 hf
set_option maxRecDepth 10000 in
set_option maxHeartbeats 2000000 in
theorem pX12_worst_l27_fr {P : Nat → Prop} {g : MT} {this : Nat} {p1 : Int32} {p2 : Int32} {h0 : CT} {r9 : Int32} {h9 : CT} (t0 : gT g this = 11) (P_this : P this) : ∀ (n : Nat) (v1 : Int32) (v2 : Int32) (v3 : Int32) (v4 : CT), FrC P [(9, 1), (11, 19), (20, 1000)] g h0 v4 → pX12_worst_l27 g this p1 p2 n v1 v2 v3 v4 = some (r9, h9) → FrC P [(9, 1), (11, 19), (20, 1000)] g h0 h9 := by
  intro n
  induction n with
  | zero => intro v1 v2 v3 v4 F0 hf; cases hf
  | succ n ih => intro v1 v2 v3 v4 F0 hf; exact pX12_worst_b27_fr t0 P_this ih F0 hf
set_option maxRecDepth 10000 in
set_option maxHeartbeats 2000000 in
theorem pX12_worst_fr {P : Nat → Prop} {g : MT} {h : CT} {this : Nat} {p1 : Int32} {p2 : Int32} {r9 : Int32} {h9 : CT} (hc : Cl P h) (P_this : P this) (hf : pX12_worst g h this p1 p2 = some (r9, h9)) : FrC P [(9, 1), (11, 19), (20, 1000)] g h h9 := by
  have F0 : FrC P [(9, 1), (11, 19), (20, 1000)] g h h := FrC.rf hc
  unfold pX12_worst at hf
  replace hf := tg_i hf; obtain ⟨t1, hf⟩ := hf
  obtain ⟨x1, e2⟩ : ∃ z, z = (pX12_aloneTrouble this p1 1 p2) := ⟨_, rfl⟩; replace hf := lt_i hf x1 e2
  by_cases c3 : x1 = 0
  · rw [if_pos c3] at hf
    exact pX12_worst_l27_fr t1 P_this _ _ _ _ _ F0 hf
  · rw [if_neg c3] at hf
    replace hf := bd2_i hf; obtain ⟨x5, h3, q4, hf⟩ := hf
    have F5 := FrC.trans F0 (pX12_refuse_fr F0.1 P_this q4) (by decide)
    cases hf
    exact F5
set_option maxRecDepth 10000 in
set_option maxHeartbeats 2000000 in
theorem pX12_depends_b16_fr {P : Nat → Prop} {E : EC} {g : MT} {this : Nat} {p1 : Int32} {p2 : Int32} {h : CT} {h0 : CT} {r9 : Int32} {h9 : CT} (t0 : gT g this = 11) (PE : PEc P E) (P_this : P this) (F0 : FrC P [(11, 19)] g h0 h) (hf : pX12_depends_b16 E g this p1 p2 h = some (r9, h9)) : FrC P [(11, 19)] g h0 h9 := by
  unfold pX12_depends_b16 at hf
  replace hf := bd2_i hf; obtain ⟨x3, h1, q1, hf⟩ := hf
  have F2 := FrC.trans F0 (pX12_refuse_fr F0.1 P_this q1) (by decide)
  cases hf
  exact F2
set_option maxRecDepth 10000 in
set_option maxHeartbeats 2000000 in
theorem pX12_depends_fr {P : Nat → Prop} {E : EC} {g : MT} {h : CT} {this : Nat} {p1 : Int32} {p2 : Int32} {r9 : Int32} {h9 : CT} (PE : PEc P E) (hc : Cl P h) (P_this : P this) (hf : pX12_depends E g h this p1 p2 = some (r9, h9)) : FrC P [(11, 19)] g h h9 := by
  have F0 : FrC P [(11, 19)] g h h := FrC.rf hc
  unfold pX12_depends at hf
  replace hf := tg_i hf; obtain ⟨t1, hf⟩ := hf
  replace hf := bd_i hf; obtain ⟨x1, q2, hf⟩ := hf
  by_cases c3 : x1 = 0
  · rw [if_pos c3] at hf
    exact pX12_depends_b16_fr t1 PE P_this F0 hf
  · rw [if_neg c3] at hf
    replace hf := bd_i hf; obtain ⟨x4, q4, hf⟩ := hf
    by_cases c5 : x4 = 0
    · rw [if_pos c5] at hf
      exact pX12_depends_b16_fr t1 PE P_this F0 hf
    · rw [if_neg c5] at hf
      by_cases c6 : p1 < p2
      · rw [if_pos c6] at hf
        obtain ⟨r8, e7⟩ : ∃ z, z = (hR h this 4) := ⟨_, rfl⟩; replace hf := lt_i hf r8 e7
        replace hf := nn_i hf; obtain ⟨a8, e8, hf⟩ := hf
        replace hf := tg_i hf; obtain ⟨t9, hf⟩ := hf
        obtain ⟨r10, e10⟩ : ∃ z, z = (hR h a8 8) := ⟨_, rfl⟩; replace hf := lt_i hf r10 e10
        replace hf := nn_i hf; obtain ⟨a10, e11, hf⟩ := hf
        replace hf := tg_i hf; obtain ⟨t12, hf⟩ := hf
        replace hf := bd_i hf; obtain ⟨x12, q13, hf⟩ := hf
        replace hf := bd2_i hf; obtain ⟨x16, h14, q14, hf⟩ := hf
        have F15 := FrC.trans F0 (pX12_answer_fr F0.1 P_this q14) (by decide)
        cases hf
        exact F15
      · rw [if_neg c6] at hf
        replace hf := bd2_i hf; obtain ⟨x19, h17, q16, hf⟩ := hf
        have F17 := FrC.trans F0 (pX12_refuse_fr F0.1 P_this q16) (by decide)
        cases hf
        exact F17
set_option maxRecDepth 10000 in
set_option maxHeartbeats 2000000 in
theorem pX12_mark_fr {P : Nat → Prop} {g : MT} {h : CT} {this : Nat} {r9 : Int32} {h9 : CT} (hc : Cl P h) (P_this : P this) (hf : pX12_mark g h this = some (r9, h9)) : FrC P [(3, 4), (3, 5), (3, 6), (3, 7), (3, 6008), (11, 6), (11, 19), (22, 5000), (24, 1000)] g h h9 := by
  have F0 : FrC P [(3, 4), (3, 5), (3, 6), (3, 7), (3, 6008), (11, 6), (11, 19), (22, 5000), (24, 1000)] g h h := FrC.rf hc
  unfold pX12_mark at hf
  replace hf := tg_i hf; obtain ⟨t1, hf⟩ := hf
  by_cases c2 : (pX12_within (hI h this 6) 0 2) = 0
  · rw [if_pos c2] at hf
    replace hf := bd2_i hf; obtain ⟨x16, h14, q3, hf⟩ := hf
    have F4 := FrC.trans F0 (pX12_refuse_fr F0.1 P_this q3) (by decide)
    cases hf
    exact F4
  · rw [if_neg c2] at hf
    obtain ⟨r2, e5⟩ : ∃ z, z = (hR h this 5) := ⟨_, rfl⟩; replace hf := lt_i hf r2 e5
    replace hf := nn_i hf; obtain ⟨a2, e6, hf⟩ := hf
    replace hf := tg_i hf; obtain ⟨t7, hf⟩ := hf
    replace hf := (ix_i hf).2
    obtain ⟨r5, e8⟩ : ∃ z, z = (hR h a2 (Int32.toNatClampNeg (hI h this 6))) := ⟨_, rfl⟩; replace hf := lt_i hf r5 e8
    obtain ⟨r6, e9⟩ : ∃ z, z = (hR h this 4) := ⟨_, rfl⟩; replace hf := lt_i hf r6 e9
    replace hf := nn_i hf; obtain ⟨a5, e10, hf⟩ := hf
    replace hf := tg_i hf; obtain ⟨t11, hf⟩ := hf
    replace hf := nn_i hf; obtain ⟨a6, e12, hf⟩ := hf
    replace hf := bd_i hf; obtain ⟨h8, q13, hf⟩ := hf
    have F14 := FrC.trans F0 (pX3_copyFrom_fr F0.1 ((fun b hb => F0.1 _ _ b ((fun b hb => F0.1 _ _ b P_this (e5.symm.trans hb)) _ e6) (e8.symm.trans hb)) _ e10) ((fun b hb => F0.1 _ _ b P_this (e9.symm.trans hb)) _ e12) q13) (by decide)
    obtain ⟨h10, e15⟩ : ∃ z, z = (sI h8 this 6 ((hI h8 this 6) + 1)) := ⟨_, rfl⟩; replace hf := lt_i hf h10 e15
    have F16 := FrC.sI F14 P_this t1 (Or.inl (by decide)) e15
    replace hf := bd2_i hf; obtain ⟨x13, h11, q17, hf⟩ := hf
    have F18 := FrC.trans F16 (pX12_answer_fr F16.1 P_this q17) (by decide)
    cases hf
    exact F18
set_option maxRecDepth 10000 in
set_option maxHeartbeats 2000000 in
theorem pX12_back_fr {P : Nat → Prop} {g : MT} {h : CT} {this : Nat} {r9 : Int32} {h9 : CT} (hc : Cl P h) (P_this : P this) (hf : pX12_back g h this = some (r9, h9)) : FrC P [(3, 4), (3, 5), (3, 6), (3, 7), (3, 6008), (11, 6), (11, 10), (11, 19), (22, 5000), (24, 1000)] g h h9 := by
  have F0 : FrC P [(3, 4), (3, 5), (3, 6), (3, 7), (3, 6008), (11, 6), (11, 10), (11, 19), (22, 5000), (24, 1000)] g h h := FrC.rf hc
  unfold pX12_back at hf
  replace hf := tg_i hf; obtain ⟨t1, hf⟩ := hf
  by_cases c2 : (pX12_within (hI h this 6) 1 3) = 0
  · rw [if_pos c2] at hf
    replace hf := bd2_i hf; obtain ⟨x17, h15, q3, hf⟩ := hf
    have F4 := FrC.trans F0 (pX12_refuse_fr F0.1 P_this q3) (by decide)
    cases hf
    exact F4
  · rw [if_neg c2] at hf
    obtain ⟨h2, e5⟩ : ∃ z, z = (sI h this 6 ((hI h this 6) - 1)) := ⟨_, rfl⟩; replace hf := lt_i hf h2 e5
    have F6 := FrC.sI F0 P_this t1 (Or.inl (by decide)) e5
    obtain ⟨r3, e7⟩ : ∃ z, z = (hR h2 this 4) := ⟨_, rfl⟩; replace hf := lt_i hf r3 e7
    obtain ⟨r4, e8⟩ : ∃ z, z = (hR h2 this 5) := ⟨_, rfl⟩; replace hf := lt_i hf r4 e8
    replace hf := nn_i hf; obtain ⟨a4, e9, hf⟩ := hf
    replace hf := tg_i hf; obtain ⟨t10, hf⟩ := hf
    replace hf := (ix_i hf).2
    obtain ⟨r7, e11⟩ : ∃ z, z = (hR h2 a4 (Int32.toNatClampNeg (hI h2 this 6))) := ⟨_, rfl⟩; replace hf := lt_i hf r7 e11
    replace hf := nn_i hf; obtain ⟨a3, e12, hf⟩ := hf
    replace hf := tg_i hf; obtain ⟨t13, hf⟩ := hf
    replace hf := nn_i hf; obtain ⟨a7, e14, hf⟩ := hf
    replace hf := bd_i hf; obtain ⟨h9, q15, hf⟩ := hf
    have F16 := FrC.trans F6 (pX3_copyFrom_fr F6.1 ((fun b hb => F6.1 _ _ b P_this (e7.symm.trans hb)) _ e12) ((fun b hb => F6.1 _ _ b ((fun b hb => F6.1 _ _ b P_this (e8.symm.trans hb)) _ e9) (e11.symm.trans hb)) _ e14) q15) (by decide)
    obtain ⟨h11, e17⟩ : ∃ z, z = (sI h9 this 10 0) := ⟨_, rfl⟩; replace hf := lt_i hf h11 e17
    have F18 := FrC.sI F16 P_this t1 (Or.inl (by decide)) e17
    replace hf := bd2_i hf; obtain ⟨x14, h12, q19, hf⟩ := hf
    have F20 := FrC.trans F18 (pX12_answer_fr F18.1 P_this q19) (by decide)
    cases hf
    exact F20
set_option maxRecDepth 10000 in
set_option maxHeartbeats 2000000 in
theorem pX11_keep_fr {P : Nat → Prop} {g : MT} {h : CT} {this : Nat} {p1 : Int32} {p2 : Int64} {h9 : CT} (hc : Cl P h) (P_this : P this) (hf : pX11_keep g h this p1 p2 = some h9) : FrC P [(21, 3000)] g h h9 := by
  have F0 : FrC P [(21, 3000)] g h h := FrC.rf hc
  unfold pX11_keep at hf
  replace hf := tg_i hf; obtain ⟨t1, hf⟩ := hf
  replace hf := bd_i hf; obtain ⟨x1, q2, hf⟩ := hf
  by_cases c3 : x1 = 0
  · rw [if_pos c3] at hf
    cases hf
    exact F0
  · rw [if_neg c3] at hf
    obtain ⟨r4, e4⟩ : ∃ z, z = (hR h this 3) := ⟨_, rfl⟩; replace hf := lt_i hf r4 e4
    replace hf := bd_i hf; obtain ⟨x5, q5, hf⟩ := hf
    replace hf := nn_i hf; obtain ⟨a4, e6, hf⟩ := hf
    replace hf := tg_i hf; obtain ⟨t7, hf⟩ := hf
    replace hf := (ix_i hf).2
    obtain ⟨h9, e8⟩ : ∃ z, z = (sL h a4 (Int32.toNatClampNeg p1) x5) := ⟨_, rfl⟩; replace hf := lt_i hf h9 e8
    have F9 := FrC.sL F0 ((fun b hb => F0.1 _ _ b P_this (e4.symm.trans hb)) _ e6) t7 (Or.inr (by decide)) e8
    cases hf
    exact F9
set_option maxRecDepth 10000 in
set_option maxHeartbeats 2000000 in
theorem pX1_tellKind_b74_fr {P : Nat → Prop} {g : MT} {this : Nat} {p1 : Nat} {l2 : Int32} {h : CT} {h0 : CT} {r9 : Int32} {h9 : CT} (t0 : gT g this = 1) (P_this : P this) (P_p1 : P p1) (F0 : FrC P [(1, 1), (1, 4), (1, 2000), (1, 2003)] g h0 h) (hf : pX1_tellKind_b74 g this p1 l2 h = some (r9, h9)) : FrC P [(1, 1), (1, 4), (1, 2000), (1, 2003)] g h0 h9 := by
  unfold pX1_tellKind_b74 at hf
  obtain ⟨h1, e1⟩ : ∃ z, z = (sL h this 0 (hL h this 3)) := ⟨_, rfl⟩; replace hf := lt_i hf h1 e1
  have F2 := FrC.sL F0 P_this t0 (Or.inl (by decide)) e1
  obtain ⟨h2, e3⟩ : ∃ z, z = (sI h1 this 1 (hI h1 this 4)) := ⟨_, rfl⟩; replace hf := lt_i hf h2 e3
  have F4 := FrC.sI F2 P_this t0 (Or.inl (by decide)) e3
  cases hf
  exact F4
set_option maxRecDepth 10000 in
set_option maxHeartbeats 2000000 in
theorem pX1_tellKind_b29_fr {P : Nat → Prop} {g : MT} {this : Nat} {p1 : Nat} {k29 : Int32 → Int32 → CT → Option ((Int32) × CT)} {l2 : Int32} {l3 : Int32} {h : CT} {h0 : CT} {r9 : Int32} {h9 : CT} (t0 : gT g this = 1) (P_this : P this) (P_p1 : P p1) (hk29 : ∀ (v0 : Int32) (v1 : Int32) (v2 : CT), FrC P [(1, 1), (1, 4), (1, 2000), (1, 2003)] g h0 v2 → k29 v0 v1 v2 = some (r9, h9) → FrC P [(1, 1), (1, 4), (1, 2000), (1, 2003)] g h0 h9) (F0 : FrC P [(1, 1), (1, 4), (1, 2000), (1, 2003)] g h0 h) (hf : pX1_tellKind_b29 g this p1 k29 l2 l3 h = some (r9, h9)) : FrC P [(1, 1), (1, 4), (1, 2000), (1, 2003)] g h0 h9 := by
  unfold pX1_tellKind_b29 at hf
  by_cases c1 : 64 ≤ l3
  · rw [if_pos c1] at hf
    exact pX1_tellKind_b74_fr t0 P_this P_p1 F0 hf
  · rw [if_neg c1] at hf
    by_cases c2 : (lg_cmp ((hL h this 3) &&& 1) 0) = 0
    · rw [if_pos c2] at hf
      obtain ⟨h3, e3⟩ : ∃ z, z = (sL h this 3 ((hL h this 3) / 2)) := ⟨_, rfl⟩; replace hf := lt_i hf h3 e3
      have F4 := FrC.sL F0 P_this t0 (Or.inl (by decide)) e3
      obtain ⟨h4, e5⟩ : ∃ z, z = (sI h3 this 4 ((hI h3 this 4) + 1)) := ⟨_, rfl⟩; replace hf := lt_i hf h4 e5
      have F6 := FrC.sI F4 P_this t0 (Or.inl (by decide)) e5
      obtain ⟨x5, e7⟩ : ∃ z, z = (l3 + 1) := ⟨_, rfl⟩; replace hf := lt_i hf x5 e7
      exact hk29 _ _ _ F6 hf
    · rw [if_neg c2] at hf
      exact pX1_tellKind_b74_fr t0 P_this P_p1 F0 hf
set_option maxRecDepth 10000 in
set_option maxHeartbeats 2000000 in
theorem pX1_tellKind_l29_fr {P : Nat → Prop} {g : MT} {this : Nat} {p1 : Nat} {h0 : CT} {r9 : Int32} {h9 : CT} (t0 : gT g this = 1) (P_this : P this) (P_p1 : P p1) : ∀ (n : Nat) (v1 : Int32) (v2 : Int32) (v3 : CT), FrC P [(1, 1), (1, 4), (1, 2000), (1, 2003)] g h0 v3 → pX1_tellKind_l29 g this p1 n v1 v2 v3 = some (r9, h9) → FrC P [(1, 1), (1, 4), (1, 2000), (1, 2003)] g h0 h9 := by
  intro n
  induction n with
  | zero => intro v1 v2 v3 F0 hf; cases hf
  | succ n ih => intro v1 v2 v3 F0 hf; exact pX1_tellKind_b29_fr t0 P_this P_p1 ih F0 hf
set_option maxRecDepth 10000 in
set_option maxHeartbeats 2000000 in
theorem pX1_tellKind_fr {P : Nat → Prop} {g : MT} {h : CT} {this : Nat} {p1 : Nat} {r9 : Int32} {h9 : CT} (hc : Cl P h) (P_this : P this) (P_p1 : P p1) (hf : pX1_tellKind g h this p1 = some (r9, h9)) : FrC P [(1, 1), (1, 4), (1, 2000), (1, 2003)] g h h9 := by
  have F0 : FrC P [(1, 1), (1, 4), (1, 2000), (1, 2003)] g h h := FrC.rf hc
  unfold pX1_tellKind at hf
  replace hf := tg_i hf; obtain ⟨t1, hf⟩ := hf
  replace hf := tg_i hf; obtain ⟨t2, hf⟩ := hf
  replace hf := bd_i hf; obtain ⟨x2, q3, hf⟩ := hf
  obtain ⟨h4, e4⟩ : ∃ z, z = (sL h this 0 0) := ⟨_, rfl⟩; replace hf := lt_i hf h4 e4
  have F5 := FrC.sL F0 P_this t1 (Or.inl (by decide)) e4
  obtain ⟨h5, e6⟩ : ∃ z, z = (sI h4 this 1 0) := ⟨_, rfl⟩; replace hf := lt_i hf h5 e6
  have F7 := FrC.sI F5 P_this t1 (Or.inl (by decide)) e6
  by_cases c8 : x2 = 0
  · rw [if_pos c8] at hf
    replace hf := bd_i hf; obtain ⟨h7, q9, hf⟩ := hf
    have F10 := FrC.trans F7 (pX1_split_fr F7.1 P_this q9) (by decide)
    exact pX1_tellKind_l29_fr t1 P_this P_p1 _ _ _ _ F10 hf
  · rw [if_neg c8] at hf
    cases hf
    exact F7
set_option maxRecDepth 10000 in
set_option maxHeartbeats 2000000 in
theorem pX10_beginInstr_b137_fr {P : Nat → Prop} {E : EC} {g : MT} {this : Nat} {p1 : Int32} {p2 : Nat} {p3 : Int32} {l4 : Int32} {h : CT} {h0 : CT} {h9 : CT} (t0 : gT g this = 9) (PE : PEc P E) (P_this : P this) (P_p2 : P p2) (F0 : FrC P [(9, 0), (9, 8), (20, 1000)] g h0 h) (hf : pX10_beginInstr_b137 E g this p1 p2 p3 l4 h = some h9) : FrC P [(9, 0), (9, 8), (20, 1000)] g h0 h9 := by
  unfold pX10_beginInstr_b137 at hf
  obtain ⟨h1, e1⟩ : ∃ z, z = (sI h this 8 l4) := ⟨_, rfl⟩; replace hf := lt_i hf h1 e1
  have F2 := FrC.sI F0 P_this t0 (Or.inl (by decide)) e1
  replace hf := bd_i hf; obtain ⟨h2, q3, hf⟩ := hf
  have F4 := FrC.trans F2 (pX10_note_fr F2.1 P_this q3) (by decide)
  by_cases c5 : p1 < 0
  · rw [if_pos c5] at hf
    cases hf
    exact F4
  · rw [if_neg c5] at hf
    obtain ⟨r5, e6⟩ : ∃ z, z = (hR h2 this 6) := ⟨_, rfl⟩; replace hf := lt_i hf r5 e6
    replace hf := nn_i hf; obtain ⟨a5, e7, hf⟩ := hf
    replace hf := tg_i hf; obtain ⟨t8, hf⟩ := hf
    by_cases c9 : (Int32.ofNat (gL g a5)) ≤ p1
    · rw [if_pos c9] at hf
      cases hf
      exact F4
    · rw [if_neg c9] at hf
      obtain ⟨r8, e10⟩ : ∃ z, z = (hR h2 this 7) := ⟨_, rfl⟩; replace hf := lt_i hf r8 e10
      replace hf := nn_i hf; obtain ⟨a8, e11, hf⟩ := hf
      replace hf := tg_i hf; obtain ⟨t12, hf⟩ := hf
      by_cases c13 : (Int32.ofNat (gL g a8)) ≤ p1
      · rw [if_pos c13] at hf
        cases hf
        exact F4
      · rw [if_neg c13] at hf
        obtain ⟨r11, e14⟩ : ∃ z, z = (hR h2 this 6) := ⟨_, rfl⟩; replace hf := lt_i hf r11 e14
        replace hf := nn_i hf; obtain ⟨a11, e15, hf⟩ := hf
        replace hf := tg_i hf; obtain ⟨t16, hf⟩ := hf
        replace hf := (ix_i hf).2
        obtain ⟨h14, e17⟩ : ∃ z, z = (sI h2 a11 (Int32.toNatClampNeg p1) l4) := ⟨_, rfl⟩; replace hf := lt_i hf h14 e17
        have F18 := FrC.sI F4 ((fun b hb => F4.1 _ _ b P_this (e14.symm.trans hb)) _ e15) t16 (Or.inr (by decide)) e17
        obtain ⟨r15, e19⟩ : ∃ z, z = (hR h14 this 7) := ⟨_, rfl⟩; replace hf := lt_i hf r15 e19
        replace hf := nn_i hf; obtain ⟨a15, e20, hf⟩ := hf
        replace hf := tg_i hf; obtain ⟨t21, hf⟩ := hf
        replace hf := (ix_i hf).2
        obtain ⟨h18, e22⟩ : ∃ z, z = (sI h14 a15 (Int32.toNatClampNeg p1) (-1)) := ⟨_, rfl⟩; replace hf := lt_i hf h18 e22
        have F23 := FrC.sI F18 ((fun b hb => F18.1 _ _ b P_this (e19.symm.trans hb)) _ e20) t21 (Or.inr (by decide)) e22
        cases hf
        exact F23
