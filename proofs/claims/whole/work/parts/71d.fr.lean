/-! what functions leave as it was (written by wip/whole/frames.py) -/
set_option maxRecDepth 10000 in
set_option maxHeartbeats 2000000 in
theorem pX12_bestSwap_b31_fr {P : Nat → Prop} {E : EC} {g : MT} {this : Nat} {k31 : Int32 → Int32 → Int32 → Int32 → CT → Option ((Int32) × CT)} {l1 : Int32} {l2 : Int32} {l3 : Int32} {l4 : Int32} {h : CT} {h0 : CT} {r9 : Int32} {h9 : CT} (t0 : gT g this = 11) (PE : PEc P E) (P_this : P this) (hk31 : ∀ (v0 : Int32) (v1 : Int32) (v2 : Int32) (v3 : Int32) (v4 : CT), FrC P [(1, 4), (1, 2003), (3, 4), (3, 5), (3, 6), (3, 7), (3, 6008), (4, 1), (4, 4000), (6, 1), (8, 7), (8, 8), (8, 9), (8, 10), (8, 6004), (8, 6005), (8, 6006), (9, 0), (9, 1), (9, 2), (9, 3), (9, 4), (9, 5), (9, 8), (9, 9), (9, 10), (9, 11), (9, 12), (11, 19), (20, 1000), (22, 5000), (24, 1000), (25, 7000)] g h0 v4 → k31 v0 v1 v2 v3 v4 = some (r9, h9) → FrC P [(1, 4), (1, 2003), (3, 4), (3, 5), (3, 6), (3, 7), (3, 6008), (4, 1), (4, 4000), (6, 1), (8, 7), (8, 8), (8, 9), (8, 10), (8, 6004), (8, 6005), (8, 6006), (9, 0), (9, 1), (9, 2), (9, 3), (9, 4), (9, 5), (9, 8), (9, 9), (9, 10), (9, 11), (9, 12), (11, 19), (20, 1000), (22, 5000), (24, 1000), (25, 7000)] g h0 h9) (F0 : FrC P [(1, 4), (1, 2003), (3, 4), (3, 5), (3, 6), (3, 7), (3, 6008), (4, 1), (4, 4000), (6, 1), (8, 7), (8, 8), (8, 9), (8, 10), (8, 6004), (8, 6005), (8, 6006), (9, 0), (9, 1), (9, 2), (9, 3), (9, 4), (9, 5), (9, 8), (9, 9), (9, 10), (9, 11), (9, 12), (11, 19), (20, 1000), (22, 5000), (24, 1000), (25, 7000)] g h0 h) (hf : pX12_bestSwap_b31 E g this k31 l1 l2 l3 l4 h = some (r9, h9)) : FrC P [(1, 4), (1, 2003), (3, 4), (3, 5), (3, 6), (3, 7), (3, 6008), (4, 1), (4, 4000), (6, 1), (8, 7), (8, 8), (8, 9), (8, 10), (8, 6004), (8, 6005), (8, 6006), (9, 0), (9, 1), (9, 2), (9, 3), (9, 4), (9, 5), (9, 8), (9, 9), (9, 10), (9, 11), (9, 12), (11, 19), (20, 1000), (22, 5000), (24, 1000), (25, 7000)] g h0 h9 := by
  unfold pX12_bestSwap_b31 at hf
  by_cases c1 : l3 = (-1)
  · rw [if_pos c1] at hf
    exact pX12_bestSwap_b108_fr t0 PE P_this F0 hf
  · rw [if_neg c1] at hf
    obtain ⟨r2, e2⟩ : ∃ z, z = (hR h this 4) := ⟨_, rfl⟩; replace hf := lt_i hf r2 e2
    replace hf := nn_i hf; obtain ⟨a2, e3, hf⟩ := hf
    replace hf := tg_i hf; obtain ⟨t4, hf⟩ := hf
    obtain ⟨r4, e5⟩ : ∃ z, z = (hR h a2 8) := ⟨_, rfl⟩; replace hf := lt_i hf r4 e5
    replace hf := nn_i hf; obtain ⟨a4, e6, hf⟩ := hf
    replace hf := tg_i hf; obtain ⟨t7, hf⟩ := hf
    by_cases c8 : ((hI h a4 1) - 1) ≤ l4
    · rw [if_pos c8] at hf
      exact pX12_bestSwap_b108_fr t0 PE P_this F0 hf
    · rw [if_neg c8] at hf
      obtain ⟨r7, e9⟩ : ∃ z, z = (hR h this 4) := ⟨_, rfl⟩; replace hf := lt_i hf r7 e9
      replace hf := nn_i hf; obtain ⟨a7, e10, hf⟩ := hf
      replace hf := tg_i hf; obtain ⟨t11, hf⟩ := hf
      obtain ⟨r9, e12⟩ : ∃ z, z = (hR h a7 8) := ⟨_, rfl⟩; replace hf := lt_i hf r9 e12
      replace hf := nn_i hf; obtain ⟨a9, e13, hf⟩ := hf
      replace hf := tg_i hf; obtain ⟨t14, hf⟩ := hf
      replace hf := bd_i hf; obtain ⟨x11, q15, hf⟩ := hf
      by_cases c16 : x11 = 0
      · rw [if_pos c16] at hf
        exact pX12_bestSwap_b78_fr t0 PE P_this hk31 F0 hf
      · rw [if_neg c16] at hf
        replace hf := bd2_i hf; obtain ⟨x16, h14, q17, hf⟩ := hf
        have F18 := FrC.trans F0 (pX12_trialCycles_fr PE F0.1 P_this q17) (by decide)
        exact pX12_bestSwap_b78_fr t0 PE P_this hk31 F18 hf
set_option maxRecDepth 10000 in
set_option maxHeartbeats 2000000 in
theorem pX12_bestSwap_l31_fr {P : Nat → Prop} {E : EC} {g : MT} {this : Nat} {h0 : CT} {r9 : Int32} {h9 : CT} (t0 : gT g this = 11) (PE : PEc P E) (P_this : P this) : ∀ (n : Nat) (v1 : Int32) (v2 : Int32) (v3 : Int32) (v4 : Int32) (v5 : CT), FrC P [(1, 4), (1, 2003), (3, 4), (3, 5), (3, 6), (3, 7), (3, 6008), (4, 1), (4, 4000), (6, 1), (8, 7), (8, 8), (8, 9), (8, 10), (8, 6004), (8, 6005), (8, 6006), (9, 0), (9, 1), (9, 2), (9, 3), (9, 4), (9, 5), (9, 8), (9, 9), (9, 10), (9, 11), (9, 12), (11, 19), (20, 1000), (22, 5000), (24, 1000), (25, 7000)] g h0 v5 → pX12_bestSwap_l31 E g this n v1 v2 v3 v4 v5 = some (r9, h9) → FrC P [(1, 4), (1, 2003), (3, 4), (3, 5), (3, 6), (3, 7), (3, 6008), (4, 1), (4, 4000), (6, 1), (8, 7), (8, 8), (8, 9), (8, 10), (8, 6004), (8, 6005), (8, 6006), (9, 0), (9, 1), (9, 2), (9, 3), (9, 4), (9, 5), (9, 8), (9, 9), (9, 10), (9, 11), (9, 12), (11, 19), (20, 1000), (22, 5000), (24, 1000), (25, 7000)] g h0 h9 := by
  intro n
  induction n with
  | zero => intro v1 v2 v3 v4 v5 F0 hf; cases hf
  | succ n ih => intro v1 v2 v3 v4 v5 F0 hf; exact pX12_bestSwap_b31_fr t0 PE P_this ih F0 hf
set_option maxRecDepth 10000 in
set_option maxHeartbeats 2000000 in
theorem pX12_bestSwap_b27_fr {P : Nat → Prop} {E : EC} {g : MT} {this : Nat} {l1 : Int32} {l2 : Int32} {s0 : Int32} {h : CT} {h0 : CT} {r9 : Int32} {h9 : CT} (t0 : gT g this = 11) (PE : PEc P E) (P_this : P this) (F0 : FrC P [(1, 4), (1, 2003), (3, 4), (3, 5), (3, 6), (3, 7), (3, 6008), (4, 1), (4, 4000), (6, 1), (8, 7), (8, 8), (8, 9), (8, 10), (8, 6004), (8, 6005), (8, 6006), (9, 0), (9, 1), (9, 2), (9, 3), (9, 4), (9, 5), (9, 8), (9, 9), (9, 10), (9, 11), (9, 12), (11, 19), (20, 1000), (22, 5000), (24, 1000), (25, 7000)] g h0 h) (hf : pX12_bestSwap_b27 E g this l1 l2 s0 h = some (r9, h9)) : FrC P [(1, 4), (1, 2003), (3, 4), (3, 5), (3, 6), (3, 7), (3, 6008), (4, 1), (4, 4000), (6, 1), (8, 7), (8, 8), (8, 9), (8, 10), (8, 6004), (8, 6005), (8, 6006), (9, 0), (9, 1), (9, 2), (9, 3), (9, 4), (9, 5), (9, 8), (9, 9), (9, 10), (9, 11), (9, 12), (11, 19), (20, 1000), (22, 5000), (24, 1000), (25, 7000)] g h0 h9 := by
  unfold pX12_bestSwap_b27 at hf
  exact pX12_bestSwap_l31_fr t0 PE P_this _ _ _ _ _ _ F0 hf
set_option maxRecDepth 10000 in
set_option maxHeartbeats 2000000 in
theorem pX12_bestSwap_fr {P : Nat → Prop} {E : EC} {g : MT} {h : CT} {this : Nat} {r9 : Int32} {h9 : CT} (PE : PEc P E) (hc : Cl P h) (P_this : P this) (hf : pX12_bestSwap E g h this = some (r9, h9)) : FrC P [(1, 4), (1, 2003), (3, 4), (3, 5), (3, 6), (3, 7), (3, 6008), (4, 1), (4, 4000), (6, 1), (8, 7), (8, 8), (8, 9), (8, 10), (8, 6004), (8, 6005), (8, 6006), (9, 0), (9, 1), (9, 2), (9, 3), (9, 4), (9, 5), (9, 8), (9, 9), (9, 10), (9, 11), (9, 12), (11, 19), (20, 1000), (22, 5000), (24, 1000), (25, 7000)] g h h9 := by
  have F0 : FrC P [(1, 4), (1, 2003), (3, 4), (3, 5), (3, 6), (3, 7), (3, 6008), (4, 1), (4, 4000), (6, 1), (8, 7), (8, 8), (8, 9), (8, 10), (8, 6004), (8, 6005), (8, 6006), (9, 0), (9, 1), (9, 2), (9, 3), (9, 4), (9, 5), (9, 8), (9, 9), (9, 10), (9, 11), (9, 12), (11, 19), (20, 1000), (22, 5000), (24, 1000), (25, 7000)] g h h := FrC.rf hc
  unfold pX12_bestSwap at hf
  replace hf := tg_i hf; obtain ⟨t1, hf⟩ := hf
  obtain ⟨r1, e2⟩ : ∃ z, z = (hR h this 4) := ⟨_, rfl⟩; replace hf := lt_i hf r1 e2
  replace hf := nn_i hf; obtain ⟨a1, e3, hf⟩ := hf
  replace hf := tg_i hf; obtain ⟨t4, hf⟩ := hf
  obtain ⟨r3, e5⟩ : ∃ z, z = (hR h a1 8) := ⟨_, rfl⟩; replace hf := lt_i hf r3 e5
  replace hf := nn_i hf; obtain ⟨a3, e6, hf⟩ := hf
  replace hf := tg_i hf; obtain ⟨t7, hf⟩ := hf
  by_cases c8 : 2 ≤ (hI h a3 1)
  · rw [if_pos c8] at hf
    replace hf := bd2_i hf; obtain ⟨x8, h6, q9, hf⟩ := hf
    have F10 := FrC.trans F0 (pX12_trialCycles_fr PE F0.1 P_this q9) (by decide)
    exact pX12_bestSwap_b27_fr t1 PE P_this F10 hf
  · rw [if_neg c8] at hf
    exact pX12_bestSwap_b27_fr t1 PE P_this F0 hf
set_option maxRecDepth 10000 in
set_option maxHeartbeats 2000000 in
theorem pX13_status_fr {P : Nat → Prop} {g : MT} {h : CT} {this : Nat} {r9 : Int32} {h9 : CT} (hc : Cl P h) (P_this : P this) (hf : pX13_status g h this = some (r9, h9)) : FrC P [(12, 1)] g h h9 := by
  have F0 : FrC P [(12, 1)] g h h := FrC.rf hc
  unfold pX13_status at hf
  replace hf := tg_i hf; obtain ⟨t1, hf⟩ := hf
  obtain ⟨h1, e2⟩ : ∃ z, z = (sI h this 1 0) := ⟨_, rfl⟩; replace hf := lt_i hf h1 e2
  have F3 := FrC.sI F0 P_this t1 (Or.inl (by decide)) e2
  cases hf
  exact F3
set_option maxRecDepth 10000 in
set_option maxHeartbeats 2000000 in
theorem pX13_mantissa_fr {P : Nat → Prop} {g : MT} {h : CT} {this : Nat} {r9 : Int64} {h9 : CT} (hc : Cl P h) (P_this : P this) (hf : pX13_mantissa g h this = some (r9, h9)) : FrC P [(12, 1)] g h h9 := by
  have F0 : FrC P [(12, 1)] g h h := FrC.rf hc
  unfold pX13_mantissa at hf
  replace hf := tg_i hf; obtain ⟨t1, hf⟩ := hf
  obtain ⟨h1, e2⟩ : ∃ z, z = (sI h this 1 0) := ⟨_, rfl⟩; replace hf := lt_i hf h1 e2
  have F3 := FrC.sI F0 P_this t1 (Or.inl (by decide)) e2
  cases hf
  exact F3
set_option maxRecDepth 10000 in
set_option maxHeartbeats 2000000 in
theorem pX13_exponent_fr {P : Nat → Prop} {g : MT} {h : CT} {this : Nat} {r9 : Int32} {h9 : CT} (hc : Cl P h) (P_this : P this) (hf : pX13_exponent g h this = some (r9, h9)) : FrC P [(12, 1)] g h h9 := by
  have F0 : FrC P [(12, 1)] g h h := FrC.rf hc
  unfold pX13_exponent at hf
  replace hf := tg_i hf; obtain ⟨t1, hf⟩ := hf
  obtain ⟨h1, e2⟩ : ∃ z, z = (sI h this 1 0) := ⟨_, rfl⟩; replace hf := lt_i hf h1 e2
  have F3 := FrC.sI F0 P_this t1 (Or.inl (by decide)) e2
  cases hf
  exact F3
set_option maxRecDepth 10000 in
set_option maxHeartbeats 2000000 in
theorem pX13_refuse_fr {P : Nat → Prop} {g : MT} {h : CT} {this : Nat} {p1 : Int32} {r9 : Int32} {h9 : CT} (hc : Cl P h) (P_this : P this) (hf : pX13_refuse g h this p1 = some (r9, h9)) : FrC P [(12, 0)] g h h9 := by
  have F0 : FrC P [(12, 0)] g h h := FrC.rf hc
  unfold pX13_refuse at hf
  replace hf := tg_i hf; obtain ⟨t1, hf⟩ := hf
  obtain ⟨h1, e2⟩ : ∃ z, z = (sI h this 0 p1) := ⟨_, rfl⟩; replace hf := lt_i hf h1 e2
  have F3 := FrC.sI F0 P_this t1 (Or.inl (by decide)) e2
  cases hf
  exact F3
set_option maxRecDepth 10000 in
set_option maxHeartbeats 2000000 in
theorem pX13_no_fr {P : Nat → Prop} {g : MT} {h : CT} {this : Nat} {p1 : Int32} {r9 : Int32} {h9 : CT} (hc : Cl P h) (P_this : P this) (hf : pX13_no g h this p1 = some (r9, h9)) : FrC P [(12, 0)] g h h9 := by
  have F0 : FrC P [(12, 0)] g h h := FrC.rf hc
  unfold pX13_no at hf
  replace hf := tg_i hf; obtain ⟨t1, hf⟩ := hf
  obtain ⟨h1, e2⟩ : ∃ z, z = (sI h this 0 p1) := ⟨_, rfl⟩; replace hf := lt_i hf h1 e2
  have F3 := FrC.sI F0 P_this t1 (Or.inl (by decide)) e2
  cases hf
  exact F3
set_option maxRecDepth 10000 in
set_option maxHeartbeats 2000000 in
theorem pX13_tray_b28_fr {P : Nat → Prop} {g : MT} {this : Nat} {p1 : Int32} {p2 : Int32} {p3 : Int32} {h : CT} {h0 : CT} {r9 : Int32} {h9 : CT} (t0 : gT g this = 12) (P_this : P this) (F0 : FrC P [(12, 0), (12, 1), (20, 1000), (21, 3000)] g h0 h) (hf : pX13_tray_b28 g this p1 p2 p3 h = some (r9, h9)) : FrC P [(12, 0), (12, 1), (20, 1000), (21, 3000)] g h0 h9 := by
  unfold pX13_tray_b28 at hf
  replace hf := bd2_i hf; obtain ⟨x3, h1, q1, hf⟩ := hf
  have F2 := FrC.trans F0 (pX13_no_fr F0.1 P_this q1) (by decide)
  replace hf := (bz_i hf).2
  cases hf
  exact F2
set_option maxRecDepth 10000 in
set_option maxHeartbeats 2000000 in
theorem pX13_tray_b74_fr {P : Nat → Prop} {g : MT} {this : Nat} {p1 : Int32} {p2 : Int32} {p3 : Int32} {k74 : Int32 → CT → Option ((Int32) × CT)} {l4 : Int32} {h : CT} {h0 : CT} {r9 : Int32} {h9 : CT} (t0 : gT g this = 12) (P_this : P this) (hk74 : ∀ (v0 : Int32) (v1 : CT), FrC P [(12, 0), (12, 1), (20, 1000), (21, 3000)] g h0 v1 → k74 v0 v1 = some (r9, h9) → FrC P [(12, 0), (12, 1), (20, 1000), (21, 3000)] g h0 h9) (F0 : FrC P [(12, 0), (12, 1), (20, 1000), (21, 3000)] g h0 h) (hf : pX13_tray_b74 g this p1 p2 p3 k74 l4 h = some (r9, h9)) : FrC P [(12, 0), (12, 1), (20, 1000), (21, 3000)] g h0 h9 := by
  unfold pX13_tray_b74 at hf
  by_cases c1 : p3 ≤ l4
  · rw [if_pos c1] at hf
    cases hf
    exact F0
  · rw [if_neg c1] at hf
    obtain ⟨r2, e2⟩ : ∃ z, z = (hR h this 6) := ⟨_, rfl⟩; replace hf := lt_i hf r2 e2
    replace hf := nn_i hf; obtain ⟨a2, e3, hf⟩ := hf
    replace hf := tg_i hf; obtain ⟨t4, hf⟩ := hf
    replace hf := (ix_i hf).2
    obtain ⟨h5, e5⟩ : ∃ z, z = (sL h a2 (Int32.toNatClampNeg ((60 * p1) + l4)) 0) := ⟨_, rfl⟩; replace hf := lt_i hf h5 e5
    have F6 := FrC.sL F0 ((fun b hb => F0.1 _ _ b P_this (e2.symm.trans hb)) _ e3) t4 (Or.inr (by decide)) e5
    obtain ⟨x6, e7⟩ : ∃ z, z = (l4 + 1) := ⟨_, rfl⟩; replace hf := lt_i hf x6 e7
    exact hk74 _ _ F6 hf
set_option maxRecDepth 10000 in
set_option maxHeartbeats 2000000 in
theorem pX13_tray_l74_fr {P : Nat → Prop} {g : MT} {this : Nat} {p1 : Int32} {p2 : Int32} {p3 : Int32} {h0 : CT} {r9 : Int32} {h9 : CT} (t0 : gT g this = 12) (P_this : P this) : ∀ (n : Nat) (v1 : Int32) (v2 : CT), FrC P [(12, 0), (12, 1), (20, 1000), (21, 3000)] g h0 v2 → pX13_tray_l74 g this p1 p2 p3 n v1 v2 = some (r9, h9) → FrC P [(12, 0), (12, 1), (20, 1000), (21, 3000)] g h0 h9 := by
  intro n
  induction n with
  | zero => intro v1 v2 F0 hf; cases hf
  | succ n ih => intro v1 v2 F0 hf; exact pX13_tray_b74_fr t0 P_this ih F0 hf
set_option maxRecDepth 10000 in
set_option maxHeartbeats 2000000 in
theorem pX13_tray_fr {P : Nat → Prop} {g : MT} {h : CT} {this : Nat} {p1 : Int32} {p2 : Int32} {p3 : Int32} {r9 : Int32} {h9 : CT} (hc : Cl P h) (P_this : P this) (hf : pX13_tray g h this p1 p2 p3 = some (r9, h9)) : FrC P [(12, 0), (12, 1), (20, 1000), (21, 3000)] g h h9 := by
  have F0 : FrC P [(12, 0), (12, 1), (20, 1000), (21, 3000)] g h h := FrC.rf hc
  unfold pX13_tray at hf
  replace hf := tg_i hf; obtain ⟨t1, hf⟩ := hf
  obtain ⟨h1, e2⟩ : ∃ z, z = (sI h this 1 0) := ⟨_, rfl⟩; replace hf := lt_i hf h1 e2
  have F3 := FrC.sI F0 P_this t1 (Or.inl (by decide)) e2
  obtain ⟨h2, e4⟩ : ∃ z, z = (sI h1 this 0 0) := ⟨_, rfl⟩; replace hf := lt_i hf h2 e4
  have F5 := FrC.sI F3 P_this t1 (Or.inl (by decide)) e4
  by_cases c6 : p1 < 0
  · rw [if_pos c6] at hf
    exact pX13_tray_b28_fr t1 P_this F5 hf
  · rw [if_neg c6] at hf
    by_cases c7 : 4 ≤ p1
    · rw [if_pos c7] at hf
      exact pX13_tray_b28_fr t1 P_this F5 hf
    · rw [if_neg c7] at hf
      by_cases c8 : p2 < 0
      · rw [if_pos c8] at hf
        exact pX13_tray_b28_fr t1 P_this F5 hf
      · rw [if_neg c8] at hf
        by_cases c9 : p2 ≤ 3
        · rw [if_pos c9] at hf
          by_cases c10 : p3 ≤ 60
          · rw [if_pos c10] at hf
            by_cases c11 : 0 ≤ p3
            · rw [if_pos c11] at hf
              obtain ⟨r9, e12⟩ : ∃ z, z = (hR h2 this 4) := ⟨_, rfl⟩; replace hf := lt_i hf r9 e12
              replace hf := nn_i hf; obtain ⟨a9, e13, hf⟩ := hf
              replace hf := tg_i hf; obtain ⟨t14, hf⟩ := hf
              replace hf := (ix_i hf).2
              obtain ⟨h12, e15⟩ : ∃ z, z = (sI h2 a9 (Int32.toNatClampNeg p1) p2) := ⟨_, rfl⟩; replace hf := lt_i hf h12 e15
              have F16 := FrC.sI F5 ((fun b hb => F5.1 _ _ b P_this (e12.symm.trans hb)) _ e13) t14 (Or.inr (by decide)) e15
              obtain ⟨r13, e17⟩ : ∃ z, z = (hR h12 this 5) := ⟨_, rfl⟩; replace hf := lt_i hf r13 e17
              replace hf := nn_i hf; obtain ⟨a13, e18, hf⟩ := hf
              replace hf := tg_i hf; obtain ⟨t19, hf⟩ := hf
              replace hf := (ix_i hf).2
              obtain ⟨h16, e20⟩ : ∃ z, z = (sI h12 a13 (Int32.toNatClampNeg p1) p3) := ⟨_, rfl⟩; replace hf := lt_i hf h16 e20
              have F21 := FrC.sI F16 ((fun b hb => F16.1 _ _ b P_this (e17.symm.trans hb)) _ e18) t19 (Or.inr (by decide)) e20
              exact pX13_tray_l74_fr t1 P_this _ _ _ F21 hf
            · rw [if_neg c11] at hf
              replace hf := bd2_i hf; obtain ⟨x19, h17, q22, hf⟩ := hf
              have F23 := FrC.trans F5 (pX13_no_fr F5.1 P_this q22) (by decide)
              replace hf := (bz_i hf).2
              cases hf
              exact F23
          · rw [if_neg c10] at hf
            replace hf := bd2_i hf; obtain ⟨x23, h21, q24, hf⟩ := hf
            have F25 := FrC.trans F5 (pX13_no_fr F5.1 P_this q24) (by decide)
            replace hf := (bz_i hf).2
            cases hf
            exact F25
        · rw [if_neg c9] at hf
          exact pX13_tray_b28_fr t1 P_this F5 hf
set_option maxRecDepth 10000 in
set_option maxHeartbeats 2000000 in
theorem pX13_write_fr {P : Nat → Prop} {g : MT} {h : CT} {this : Nat} {p1 : Int32} {p2 : Int32} {p3 : Int64} {r9 : Int32} {h9 : CT} (hc : Cl P h) (P_this : P this) (hf : pX13_write g h this p1 p2 p3 = some (r9, h9)) : FrC P [(12, 0), (12, 1), (21, 3000)] g h h9 := by
  have F0 : FrC P [(12, 0), (12, 1), (21, 3000)] g h h := FrC.rf hc
  unfold pX13_write at hf
  replace hf := tg_i hf; obtain ⟨t1, hf⟩ := hf
  obtain ⟨h1, e2⟩ : ∃ z, z = (sI h this 1 0) := ⟨_, rfl⟩; replace hf := lt_i hf h1 e2
  have F3 := FrC.sI F0 P_this t1 (Or.inl (by decide)) e2
  replace hf := bd_i hf; obtain ⟨x2, q4, hf⟩ := hf
  obtain ⟨h4, e5⟩ : ∃ z, z = (sI h1 this 0 x2) := ⟨_, rfl⟩; replace hf := lt_i hf h4 e5
  have F6 := FrC.sI F3 P_this t1 (Or.inl (by decide)) e5
  by_cases c7 : (hI h4 this 0) ≤ 0
  · rw [if_pos c7] at hf
    obtain ⟨r6, e8⟩ : ∃ z, z = (hR h4 this 6) := ⟨_, rfl⟩; replace hf := lt_i hf r6 e8
    obtain ⟨r7, e9⟩ : ∃ z, z = (hR h4 this 4) := ⟨_, rfl⟩; replace hf := lt_i hf r7 e9
    replace hf := nn_i hf; obtain ⟨a7, e10, hf⟩ := hf
    replace hf := tg_i hf; obtain ⟨t11, hf⟩ := hf
    replace hf := (ix_i hf).2
    replace hf := nn_i hf; obtain ⟨a6, e12, hf⟩ := hf
    replace hf := tg_i hf; obtain ⟨t13, hf⟩ := hf
    replace hf := (ix_i hf).2
    obtain ⟨h12, e14⟩ : ∃ z, z = (sL h4 a6 (Int32.toNatClampNeg ((60 * p1) + p2)) (pX13_trims (hI h4 a7 (Int32.toNatClampNeg p1)) p3)) := ⟨_, rfl⟩; replace hf := lt_i hf h12 e14
    have F15 := FrC.sL F6 ((fun b hb => F6.1 _ _ b P_this (e8.symm.trans hb)) _ e12) t13 (Or.inr (by decide)) e14
    cases hf
    exact F15
  · rw [if_neg c7] at hf
    cases hf
    exact F6
set_option maxRecDepth 10000 in
set_option maxHeartbeats 2000000 in
theorem pX13_read_fr {P : Nat → Prop} {g : MT} {h : CT} {this : Nat} {p1 : Int32} {p2 : Int32} {r9 : Int64} {h9 : CT} (hc : Cl P h) (P_this : P this) (hf : pX13_read g h this p1 p2 = some (r9, h9)) : FrC P [(12, 0), (12, 1)] g h h9 := by
  have F0 : FrC P [(12, 0), (12, 1)] g h h := FrC.rf hc
  unfold pX13_read at hf
  replace hf := tg_i hf; obtain ⟨t1, hf⟩ := hf
  obtain ⟨h1, e2⟩ : ∃ z, z = (sI h this 1 0) := ⟨_, rfl⟩; replace hf := lt_i hf h1 e2
  have F3 := FrC.sI F0 P_this t1 (Or.inl (by decide)) e2
  replace hf := bd_i hf; obtain ⟨x2, q4, hf⟩ := hf
  obtain ⟨h4, e5⟩ : ∃ z, z = (sI h1 this 0 x2) := ⟨_, rfl⟩; replace hf := lt_i hf h4 e5
  have F6 := FrC.sI F3 P_this t1 (Or.inl (by decide)) e5
  by_cases c7 : (hI h4 this 0) ≤ 0
  · rw [if_pos c7] at hf
    obtain ⟨r6, e8⟩ : ∃ z, z = (hR h4 this 6) := ⟨_, rfl⟩; replace hf := lt_i hf r6 e8
    replace hf := nn_i hf; obtain ⟨a6, e9, hf⟩ := hf
    replace hf := tg_i hf; obtain ⟨t10, hf⟩ := hf
    replace hf := (ix_i hf).2
    cases hf
    exact F6
  · rw [if_neg c7] at hf
    cases hf
    exact F6
set_option maxRecDepth 10000 in
set_option maxHeartbeats 2000000 in
theorem pX13_pour_b28_fr {P : Nat → Prop} {g : MT} {this : Nat} {p1 : Int32} {p2 : Int32} {p3 : Int32} {p4 : Int32} {p5 : Int32} {h : CT} {h0 : CT} {r9 : Int32} {h9 : CT} (t0 : gT g this = 12) (P_this : P this) (F0 : FrC P [(12, 0), (12, 1), (21, 3000)] g h0 h) (hf : pX13_pour_b28 g this p1 p2 p3 p4 p5 h = some (r9, h9)) : FrC P [(12, 0), (12, 1), (21, 3000)] g h0 h9 := by
  unfold pX13_pour_b28 at hf
  replace hf := bd2_i hf; obtain ⟨x3, h1, q1, hf⟩ := hf
  have F2 := FrC.trans F0 (pX13_no_fr F0.1 P_this q1) (by decide)
  replace hf := (bz_i hf).2
  cases hf
  exact F2
set_option maxRecDepth 10000 in
set_option maxHeartbeats 2000000 in
theorem pX13_pour_b52_fr {P : Nat → Prop} {g : MT} {this : Nat} {p1 : Int32} {p2 : Int32} {p3 : Int32} {p4 : Int32} {p5 : Int32} {h : CT} {h0 : CT} {r9 : Int32} {h9 : CT} (t0 : gT g this = 12) (P_this : P this) (F0 : FrC P [(12, 0), (12, 1), (21, 3000)] g h0 h) (hf : pX13_pour_b52 g this p1 p2 p3 p4 p5 h = some (r9, h9)) : FrC P [(12, 0), (12, 1), (21, 3000)] g h0 h9 := by
  unfold pX13_pour_b52 at hf
  replace hf := bd2_i hf; obtain ⟨x3, h1, q1, hf⟩ := hf
  have F2 := FrC.trans F0 (pX13_no_fr F0.1 P_this q1) (by decide)
  replace hf := (bz_i hf).2
  cases hf
  exact F2
set_option maxRecDepth 10000 in
set_option maxHeartbeats 2000000 in
theorem pX13_pour_b136_fr {P : Nat → Prop} {g : MT} {this : Nat} {p1 : Int32} {p2 : Int32} {p3 : Int32} {p4 : Int32} {p5 : Int32} {h : CT} {h0 : CT} {r9 : Int32} {h9 : CT} (t0 : gT g this = 12) (P_this : P this) (F0 : FrC P [(12, 0), (12, 1), (21, 3000)] g h0 h) (hf : pX13_pour_b136 g this p1 p2 p3 p4 p5 h = some (r9, h9)) : FrC P [(12, 0), (12, 1), (21, 3000)] g h0 h9 := by
  unfold pX13_pour_b136 at hf
  replace hf := bd2_i hf; obtain ⟨x3, h1, q1, hf⟩ := hf
  have F2 := FrC.trans F0 (pX13_no_fr F0.1 P_this q1) (by decide)
  replace hf := (bz_i hf).2
  cases hf
  exact F2
set_option maxRecDepth 10000 in
set_option maxHeartbeats 2000000 in
theorem pX13_pour_b182_fr {P : Nat → Prop} {g : MT} {this : Nat} {p1 : Int32} {p2 : Int32} {p3 : Int32} {p4 : Int32} {p5 : Int32} {k158 : Int32 → Int32 → CT → Option ((Int32) × CT)} {l6 : Int32} {l7 : Int32} {s0 : Int32} {h : CT} {h0 : CT} {r9 : Int32} {h9 : CT} (t0 : gT g this = 12) (P_this : P this) (hk158 : ∀ (v0 : Int32) (v1 : Int32) (v2 : CT), FrC P [(12, 0), (12, 1), (21, 3000)] g h0 v2 → k158 v0 v1 v2 = some (r9, h9) → FrC P [(12, 0), (12, 1), (21, 3000)] g h0 h9) (F0 : FrC P [(12, 0), (12, 1), (21, 3000)] g h0 h) (hf : pX13_pour_b182 g this p1 p2 p3 p4 p5 k158 l6 l7 s0 h = some (r9, h9)) : FrC P [(12, 0), (12, 1), (21, 3000)] g h0 h9 := by
  unfold pX13_pour_b182 at hf
  obtain ⟨r1, e1⟩ : ∃ z, z = (hR h this 6) := ⟨_, rfl⟩; replace hf := lt_i hf r1 e1
  obtain ⟨r2, e2⟩ : ∃ z, z = (hR h this 6) := ⟨_, rfl⟩; replace hf := lt_i hf r2 e2
  replace hf := nn_i hf; obtain ⟨a2, e3, hf⟩ := hf
  replace hf := tg_i hf; obtain ⟨t4, hf⟩ := hf
  replace hf := (ix_i hf).2
  replace hf := nn_i hf; obtain ⟨a1, e5, hf⟩ := hf
  replace hf := tg_i hf; obtain ⟨t6, hf⟩ := hf
  replace hf := (ix_i hf).2
  obtain ⟨h7, e7⟩ : ∃ z, z = (sL h a1 (Int32.toNatClampNeg (((60 * p3) + p4) + s0)) (hL h a2 (Int32.toNatClampNeg (((60 * p1) + p2) + s0)))) := ⟨_, rfl⟩; replace hf := lt_i hf h7 e7
  have F8 := FrC.sL F0 ((fun b hb => F0.1 _ _ b P_this (e1.symm.trans hb)) _ e5) t6 (Or.inr (by decide)) e7
  obtain ⟨x8, e9⟩ : ∃ z, z = (l7 + 1) := ⟨_, rfl⟩; replace hf := lt_i hf x8 e9
  exact hk158 _ _ _ F8 hf
set_option maxRecDepth 10000 in
set_option maxHeartbeats 2000000 in
theorem pX13_pour_b158_fr {P : Nat → Prop} {g : MT} {this : Nat} {p1 : Int32} {p2 : Int32} {p3 : Int32} {p4 : Int32} {p5 : Int32} {k158 : Int32 → Int32 → CT → Option ((Int32) × CT)} {l6 : Int32} {l7 : Int32} {h : CT} {h0 : CT} {r9 : Int32} {h9 : CT} (t0 : gT g this = 12) (P_this : P this) (hk158 : ∀ (v0 : Int32) (v1 : Int32) (v2 : CT), FrC P [(12, 0), (12, 1), (21, 3000)] g h0 v2 → k158 v0 v1 v2 = some (r9, h9) → FrC P [(12, 0), (12, 1), (21, 3000)] g h0 h9) (F0 : FrC P [(12, 0), (12, 1), (21, 3000)] g h0 h) (hf : pX13_pour_b158 g this p1 p2 p3 p4 p5 k158 l6 l7 h = some (r9, h9)) : FrC P [(12, 0), (12, 1), (21, 3000)] g h0 h9 := by
  unfold pX13_pour_b158 at hf
  by_cases c1 : p5 ≤ l7
  · rw [if_pos c1] at hf
    cases hf
    exact F0
  · rw [if_neg c1] at hf
    by_cases c2 : l6 = 0
    · rw [if_pos c2] at hf
      exact pX13_pour_b182_fr t0 P_this hk158 F0 hf
    · rw [if_neg c2] at hf
      exact pX13_pour_b182_fr t0 P_this hk158 F0 hf
set_option maxRecDepth 10000 in
set_option maxHeartbeats 2000000 in
theorem pX13_pour_l158_fr {P : Nat → Prop} {g : MT} {this : Nat} {p1 : Int32} {p2 : Int32} {p3 : Int32} {p4 : Int32} {p5 : Int32} {h0 : CT} {r9 : Int32} {h9 : CT} (t0 : gT g this = 12) (P_this : P this) : ∀ (n : Nat) (v1 : Int32) (v2 : Int32) (v3 : CT), FrC P [(12, 0), (12, 1), (21, 3000)] g h0 v3 → pX13_pour_l158 g this p1 p2 p3 p4 p5 n v1 v2 v3 = some (r9, h9) → FrC P [(12, 0), (12, 1), (21, 3000)] g h0 h9 := by
  intro n
  induction n with
  | zero => intro v1 v2 v3 F0 hf; cases hf
  | succ n ih => intro v1 v2 v3 F0 hf; exact pX13_pour_b158_fr t0 P_this ih F0 hf
set_option maxRecDepth 10000 in
set_option maxHeartbeats 2000000 in
theorem pX13_pour_b153_fr {P : Nat → Prop} {g : MT} {this : Nat} {p1 : Int32} {p2 : Int32} {p3 : Int32} {p4 : Int32} {p5 : Int32} {s0 : Int32} {h : CT} {h0 : CT} {r9 : Int32} {h9 : CT} (t0 : gT g this = 12) (P_this : P this) (F0 : FrC P [(12, 0), (12, 1), (21, 3000)] g h0 h) (hf : pX13_pour_b153 g this p1 p2 p3 p4 p5 s0 h = some (r9, h9)) : FrC P [(12, 0), (12, 1), (21, 3000)] g h0 h9 := by
  unfold pX13_pour_b153 at hf
  exact pX13_pour_l158_fr t0 P_this _ _ _ _ F0 hf
set_option maxRecDepth 10000 in
set_option maxHeartbeats 2000000 in
theorem pX13_pour_fr {P : Nat → Prop} {g : MT} {h : CT} {this : Nat} {p1 : Int32} {p2 : Int32} {p3 : Int32} {p4 : Int32} {p5 : Int32} {r9 : Int32} {h9 : CT} (hc : Cl P h) (P_this : P this) (hf : pX13_pour g h this p1 p2 p3 p4 p5 = some (r9, h9)) : FrC P [(12, 0), (12, 1), (21, 3000)] g h h9 := by
  have F0 : FrC P [(12, 0), (12, 1), (21, 3000)] g h h := FrC.rf hc
  unfold pX13_pour at hf
  replace hf := tg_i hf; obtain ⟨t1, hf⟩ := hf
  obtain ⟨h1, e2⟩ : ∃ z, z = (sI h this 1 0) := ⟨_, rfl⟩; replace hf := lt_i hf h1 e2
  have F3 := FrC.sI F0 P_this t1 (Or.inl (by decide)) e2
  obtain ⟨h2, e4⟩ : ∃ z, z = (sI h1 this 0 0) := ⟨_, rfl⟩; replace hf := lt_i hf h2 e4
  have F5 := FrC.sI F3 P_this t1 (Or.inl (by decide)) e4
  by_cases c6 : p1 < 0
  · rw [if_pos c6] at hf
    exact pX13_pour_b28_fr t1 P_this F5 hf
  · rw [if_neg c6] at hf
    by_cases c7 : 4 ≤ p1
    · rw [if_pos c7] at hf
      exact pX13_pour_b28_fr t1 P_this F5 hf
    · rw [if_neg c7] at hf
      by_cases c8 : p3 < 0
      · rw [if_pos c8] at hf
        exact pX13_pour_b28_fr t1 P_this F5 hf
      · rw [if_neg c8] at hf
        by_cases c9 : p3 < 4
        · rw [if_pos c9] at hf
          obtain ⟨r7, e10⟩ : ∃ z, z = (hR h2 this 5) := ⟨_, rfl⟩; replace hf := lt_i hf r7 e10
          replace hf := nn_i hf; obtain ⟨a7, e11, hf⟩ := hf
          replace hf := tg_i hf; obtain ⟨t12, hf⟩ := hf
          replace hf := (ix_i hf).2
          by_cases c13 : (hI h2 a7 (Int32.toNatClampNeg p1)) < 0
          · rw [if_pos c13] at hf
            exact pX13_pour_b52_fr t1 P_this F5 hf
          · rw [if_neg c13] at hf
            obtain ⟨r11, e14⟩ : ∃ z, z = (hR h2 this 5) := ⟨_, rfl⟩; replace hf := lt_i hf r11 e14
            replace hf := nn_i hf; obtain ⟨a11, e15, hf⟩ := hf
            replace hf := tg_i hf; obtain ⟨t16, hf⟩ := hf
            replace hf := (ix_i hf).2
            by_cases c17 : 0 ≤ (hI h2 a11 (Int32.toNatClampNeg p3))
            · rw [if_pos c17] at hf
              obtain ⟨r15, e18⟩ : ∃ z, z = (hR h2 this 4) := ⟨_, rfl⟩; replace hf := lt_i hf r15 e18
              replace hf := nn_i hf; obtain ⟨a15, e19, hf⟩ := hf
              replace hf := tg_i hf; obtain ⟨t20, hf⟩ := hf
              replace hf := (ix_i hf).2
              obtain ⟨r18, e21⟩ : ∃ z, z = (hR h2 this 4) := ⟨_, rfl⟩; replace hf := lt_i hf r18 e21
              replace hf := nn_i hf; obtain ⟨a18, e22, hf⟩ := hf
              replace hf := tg_i hf; obtain ⟨t23, hf⟩ := hf
              replace hf := (ix_i hf).2
              by_cases c24 : (hI h2 a15 (Int32.toNatClampNeg p1)) = (hI h2 a18 (Int32.toNatClampNeg p3))
              · rw [if_pos c24] at hf
                by_cases c25 : 0 ≤ p5
                · rw [if_pos c25] at hf
                  by_cases c26 : p2 < 0
                  · rw [if_pos c26] at hf
                    exact pX13_pour_b136_fr t1 P_this F5 hf
                  · rw [if_neg c26] at hf
                    by_cases c27 : p4 < 0
                    · rw [if_pos c27] at hf
                      exact pX13_pour_b136_fr t1 P_this F5 hf
                    · rw [if_neg c27] at hf
                      obtain ⟨r25, e28⟩ : ∃ z, z = (hR h2 this 5) := ⟨_, rfl⟩; replace hf := lt_i hf r25 e28
                      replace hf := nn_i hf; obtain ⟨a25, e29, hf⟩ := hf
                      replace hf := tg_i hf; obtain ⟨t30, hf⟩ := hf
                      replace hf := (ix_i hf).2
                      by_cases c31 : 0 < (lg_cmp ((Int32.toInt64 p2) + (Int32.toInt64 p5)) (Int32.toInt64 (hI h2 a25 (Int32.toNatClampNeg p1))))
                      · rw [if_pos c31] at hf
                        exact pX13_pour_b136_fr t1 P_this F5 hf
                      · rw [if_neg c31] at hf
                        obtain ⟨r29, e32⟩ : ∃ z, z = (hR h2 this 5) := ⟨_, rfl⟩; replace hf := lt_i hf r29 e32
                        replace hf := nn_i hf; obtain ⟨a29, e33, hf⟩ := hf
                        replace hf := tg_i hf; obtain ⟨t34, hf⟩ := hf
                        replace hf := (ix_i hf).2
                        by_cases c35 : (lg_cmp ((Int32.toInt64 p4) + (Int32.toInt64 p5)) (Int32.toInt64 (hI h2 a29 (Int32.toNatClampNeg p3)))) ≤ 0
                        · rw [if_pos c35] at hf
                          by_cases c36 : p4 ≤ p2
                          · rw [if_pos c36] at hf
                            exact pX13_pour_b153_fr t1 P_this F5 hf
                          · rw [if_neg c36] at hf
                            exact pX13_pour_b153_fr t1 P_this F5 hf
                        · rw [if_neg c35] at hf
                          exact pX13_pour_b136_fr t1 P_this F5 hf
                · rw [if_neg c25] at hf
                  replace hf := bd2_i hf; obtain ⟨x36, h34, q37, hf⟩ := hf
                  have F38 := FrC.trans F5 (pX13_no_fr F5.1 P_this q37) (by decide)
                  replace hf := (bz_i hf).2
                  cases hf
                  exact F38
              · rw [if_neg c24] at hf
                replace hf := bd2_i hf; obtain ⟨x40, h38, q39, hf⟩ := hf
                have F40 := FrC.trans F5 (pX13_no_fr F5.1 P_this q39) (by decide)
                replace hf := (bz_i hf).2
                cases hf
                exact F40
            · rw [if_neg c17] at hf
              exact pX13_pour_b52_fr t1 P_this F5 hf
        · rw [if_neg c9] at hf
          exact pX13_pour_b28_fr t1 P_this F5 hf
set_option maxRecDepth 10000 in
set_option maxHeartbeats 2000000 in
theorem pX13_tells_b45_fr {P : Nat → Prop} {g : MT} {this : Nat} {p1 : UInt64} {k27 : Int32 → UInt64 → Int32 → CT → Option ((Int32) × CT)} {l3 : Int32} {l4 : UInt64} {l6 : Int32} {h : CT} {h0 : CT} {r9 : Int32} {h9 : CT} (t0 : gT g this = 12) (P_this : P this) (hk27 : ∀ (v0 : Int32) (v1 : UInt64) (v2 : Int32) (v3 : CT), FrC P [(12, 3), (12, 2002)] g h0 v3 → k27 v0 v1 v2 v3 = some (r9, h9) → FrC P [(12, 3), (12, 2002)] g h0 h9) (F0 : FrC P [(12, 3), (12, 2002)] g h0 h) (hf : pX13_tells_b45 g this p1 k27 l3 l4 l6 h = some (r9, h9)) : FrC P [(12, 3), (12, 2002)] g h0 h9 := by
  unfold pX13_tells_b45 at hf
  obtain ⟨x1, e1⟩ : ∃ z, z = (fdiv l4 4611686018427387904) := ⟨_, rfl⟩; replace hf := lt_i hf x1 e1
  obtain ⟨x2, e2⟩ : ∃ z, z = (l6 + 1) := ⟨_, rfl⟩; replace hf := lt_i hf x2 e2
  exact hk27 _ _ _ _ F0 hf
set_option maxRecDepth 10000 in
set_option maxHeartbeats 2000000 in
theorem pX13_tells_b88_fr {P : Nat → Prop} {g : MT} {this : Nat} {p1 : UInt64} {k88 : Int32 → Int32 → Int64 → CT → Option ((Int32) × CT)} {l3 : Int32} {l6 : Int32} {l7 : Int64} {h : CT} {h0 : CT} {r9 : Int32} {h9 : CT} (t0 : gT g this = 12) (P_this : P this) (hk88 : ∀ (v0 : Int32) (v1 : Int32) (v2 : Int64) (v3 : CT), FrC P [(12, 3), (12, 2002)] g h0 v3 → k88 v0 v1 v2 v3 = some (r9, h9) → FrC P [(12, 3), (12, 2002)] g h0 h9) (F0 : FrC P [(12, 3), (12, 2002)] g h0 h) (hf : pX13_tells_b88 g this p1 k88 l3 l6 l7 h = some (r9, h9)) : FrC P [(12, 3), (12, 2002)] g h0 h9 := by
  unfold pX13_tells_b88 at hf
  by_cases c1 : (lg_cmp (l7 - l7 / 2 * 2) 0) = 0
  · rw [if_pos c1] at hf
    obtain ⟨x4, e2⟩ : ∃ z, z = (l7 / 2) := ⟨_, rfl⟩; replace hf := lt_i hf x4 e2
    obtain ⟨x5, e3⟩ : ∃ z, z = (l6 + 1) := ⟨_, rfl⟩; replace hf := lt_i hf x5 e3
    exact hk88 _ _ _ _ F0 hf
  · rw [if_neg c1] at hf
    obtain ⟨h2, e4⟩ : ∃ z, z = (sL h this 2 l7) := ⟨_, rfl⟩; replace hf := lt_i hf h2 e4
    have F5 := FrC.sL F0 P_this t0 (Or.inl (by decide)) e4
    obtain ⟨h3, e6⟩ : ∃ z, z = (sI h2 this 3 l6) := ⟨_, rfl⟩; replace hf := lt_i hf h3 e6
    have F7 := FrC.sI F5 P_this t0 (Or.inl (by decide)) e6
    cases hf
    exact F7
set_option maxRecDepth 10000 in
set_option maxHeartbeats 2000000 in
theorem pX13_tells_l88_fr {P : Nat → Prop} {g : MT} {this : Nat} {p1 : UInt64} {h0 : CT} {r9 : Int32} {h9 : CT} (t0 : gT g this = 12) (P_this : P this) : ∀ (n : Nat) (v1 : Int32) (v2 : Int32) (v3 : Int64) (v4 : CT), FrC P [(12, 3), (12, 2002)] g h0 v4 → pX13_tells_l88 g this p1 n v1 v2 v3 v4 = some (r9, h9) → FrC P [(12, 3), (12, 2002)] g h0 h9 := by
  intro n
  induction n with
  | zero => intro v1 v2 v3 v4 F0 hf; cases hf
  | succ n ih => intro v1 v2 v3 v4 F0 hf; exact pX13_tells_b88_fr t0 P_this ih F0 hf
set_option maxRecDepth 10000 in
set_option maxHeartbeats 2000000 in
theorem pX13_tells_b59_fr {P : Nat → Prop} {g : MT} {this : Nat} {p1 : UInt64} {k59 : Int32 → UInt64 → Int32 → CT → Option ((Int32) × CT)} {l3 : Int32} {l4 : UInt64} {l6 : Int32} {h : CT} {h0 : CT} {r9 : Int32} {h9 : CT} (t0 : gT g this = 12) (P_this : P this) (hk59 : ∀ (v0 : Int32) (v1 : UInt64) (v2 : Int32) (v3 : CT), FrC P [(12, 3), (12, 2002)] g h0 v3 → k59 v0 v1 v2 v3 = some (r9, h9) → FrC P [(12, 3), (12, 2002)] g h0 h9) (F0 : FrC P [(12, 3), (12, 2002)] g h0 h) (hf : pX13_tells_b59 g this p1 k59 l3 l4 l6 h = some (r9, h9)) : FrC P [(12, 3), (12, 2002)] g h0 h9 := by
  unfold pX13_tells_b59 at hf
  by_cases c1 : (Op.cmpValue (FP.dcmp (fl2d (FP.d2l l4)) l4) .l) = 0
  · rw [if_pos c1] at hf
    obtain ⟨x2, e2⟩ : ∃ z, z = (FP.d2l l4) := ⟨_, rfl⟩; replace hf := lt_i hf x2 e2
    exact pX13_tells_l88_fr t0 P_this _ _ _ _ _ F0 hf
  · rw [if_neg c1] at hf
    obtain ⟨x3, e3⟩ : ∃ z, z = (fmul l4 4611686018427387904) := ⟨_, rfl⟩; replace hf := lt_i hf x3 e3
    obtain ⟨x4, e4⟩ : ∃ z, z = (l6 + (-1)) := ⟨_, rfl⟩; replace hf := lt_i hf x4 e4
    exact hk59 _ _ _ _ F0 hf
set_option maxRecDepth 10000 in
set_option maxHeartbeats 2000000 in
theorem pX13_tells_l59_fr {P : Nat → Prop} {g : MT} {this : Nat} {p1 : UInt64} {h0 : CT} {r9 : Int32} {h9 : CT} (t0 : gT g this = 12) (P_this : P this) : ∀ (n : Nat) (v1 : Int32) (v2 : UInt64) (v3 : Int32) (v4 : CT), FrC P [(12, 3), (12, 2002)] g h0 v4 → pX13_tells_l59 g this p1 n v1 v2 v3 v4 = some (r9, h9) → FrC P [(12, 3), (12, 2002)] g h0 h9 := by
  intro n
  induction n with
  | zero => intro v1 v2 v3 v4 F0 hf; cases hf
  | succ n ih => intro v1 v2 v3 v4 F0 hf; exact pX13_tells_b59_fr t0 P_this ih F0 hf
set_option maxRecDepth 10000 in
set_option maxHeartbeats 2000000 in
theorem pX13_tells_b27_fr {P : Nat → Prop} {g : MT} {this : Nat} {p1 : UInt64} {k27 : Int32 → UInt64 → Int32 → CT → Option ((Int32) × CT)} {l3 : Int32} {l4 : UInt64} {l6 : Int32} {h : CT} {h0 : CT} {r9 : Int32} {h9 : CT} (t0 : gT g this = 12) (P_this : P this) (hk27 : ∀ (v0 : Int32) (v1 : UInt64) (v2 : Int32) (v3 : CT), FrC P [(12, 3), (12, 2002)] g h0 v3 → k27 v0 v1 v2 v3 = some (r9, h9) → FrC P [(12, 3), (12, 2002)] g h0 h9) (F0 : FrC P [(12, 3), (12, 2002)] g h0 h) (hf : pX13_tells_b27 g this p1 k27 l3 l4 l6 h = some (r9, h9)) : FrC P [(12, 3), (12, 2002)] g h0 h9 := by
  unfold pX13_tells_b27 at hf
  by_cases c1 : 0 ≤ (Op.cmpValue (FP.dcmp l4 4845873199050653696) .l)
  · rw [if_pos c1] at hf
    exact pX13_tells_b45_fr t0 P_this hk27 F0 hf
  · rw [if_neg c1] at hf
    by_cases c2 : 0 < (Op.cmpValue (FP.dcmp l4 14069245235905429504) .g)
    · rw [if_pos c2] at hf
      exact pX13_tells_l59_fr t0 P_this _ _ _ _ _ F0 hf
    · rw [if_neg c2] at hf
      exact pX13_tells_b45_fr t0 P_this hk27 F0 hf
set_option maxRecDepth 10000 in
set_option maxHeartbeats 2000000 in
theorem pX13_tells_l27_fr {P : Nat → Prop} {g : MT} {this : Nat} {p1 : UInt64} {h0 : CT} {r9 : Int32} {h9 : CT} (t0 : gT g this = 12) (P_this : P this) : ∀ (n : Nat) (v1 : Int32) (v2 : UInt64) (v3 : Int32) (v4 : CT), FrC P [(12, 3), (12, 2002)] g h0 v4 → pX13_tells_l27 g this p1 n v1 v2 v3 v4 = some (r9, h9) → FrC P [(12, 3), (12, 2002)] g h0 h9 := by
  intro n
  induction n with
  | zero => intro v1 v2 v3 v4 F0 hf; cases hf
  | succ n ih => intro v1 v2 v3 v4 F0 hf; exact pX13_tells_b27_fr t0 P_this ih F0 hf
set_option maxRecDepth 10000 in
set_option maxHeartbeats 2000000 in
theorem pX13_tells_fr {P : Nat → Prop} {g : MT} {h : CT} {this : Nat} {p1 : UInt64} {r9 : Int32} {h9 : CT} (hc : Cl P h) (P_this : P this) (hf : pX13_tells g h this p1 = some (r9, h9)) : FrC P [(12, 3), (12, 2002)] g h h9 := by
  have F0 : FrC P [(12, 3), (12, 2002)] g h h := FrC.rf hc
  unfold pX13_tells at hf
  replace hf := tg_i hf; obtain ⟨t1, hf⟩ := hf
  obtain ⟨x1, e2⟩ : ∃ z, z = (pX13_kindOf p1) := ⟨_, rfl⟩; replace hf := lt_i hf x1 e2
  obtain ⟨h2, e3⟩ : ∃ z, z = (sL h this 2 0) := ⟨_, rfl⟩; replace hf := lt_i hf h2 e3
  have F4 := FrC.sL F0 P_this t1 (Or.inl (by decide)) e3
  obtain ⟨h3, e5⟩ : ∃ z, z = (sI h2 this 3 0) := ⟨_, rfl⟩; replace hf := lt_i hf h3 e5
  have F6 := FrC.sI F4 P_this t1 (Or.inl (by decide)) e5
  by_cases c7 : x1 ≤ 0
  · rw [if_pos c7] at hf
    exact pX13_tells_l27_fr t1 P_this _ _ _ _ _ F6 hf
  · rw [if_neg c7] at hf
    cases hf
    exact F6
set_option maxRecDepth 10000 in
set_option maxHeartbeats 2000000 in
theorem pX13_advance_b304_fr {P : Nat → Prop} {g : MT} {this : Nat} {s0 : Nat} {s1 : Int32} {h : CT} {h0 : CT} {h9 : CT} (t0 : gT g this = 12) (P_this : P this) (P_s0 : P s0) (F0 : FrC P [(12, 14), (12, 15), (12, 16), (12, 17), (12, 2018)] g h0 h) (hf : pX13_advance_b304 g this s0 s1 h = some h9) : FrC P [(12, 14), (12, 15), (12, 16), (12, 17), (12, 2018)] g h0 h9 := by
  unfold pX13_advance_b304 at hf
  replace hf := tg_i hf; obtain ⟨t1, hf⟩ := hf
  obtain ⟨h2, e2⟩ : ∃ z, z = (sI h s0 14 s1) := ⟨_, rfl⟩; replace hf := lt_i hf h2 e2
  have F3 := FrC.sI F0 P_s0 t1 (Or.inl (by decide)) e2
  cases hf
  exact F3
set_option maxRecDepth 10000 in
set_option maxHeartbeats 2000000 in
theorem pX13_advance_b276_fr {P : Nat → Prop} {g : MT} {this : Nat} {s0 : Nat} {s1 : Int32} {h : CT} {h0 : CT} {h9 : CT} (t0 : gT g this = 12) (P_this : P this) (P_s0 : P s0) (F0 : FrC P [(12, 14), (12, 15), (12, 16), (12, 17), (12, 2018)] g h0 h) (hf : pX13_advance_b276 g this s0 s1 h = some h9) : FrC P [(12, 14), (12, 15), (12, 16), (12, 17), (12, 2018)] g h0 h9 := by
  unfold pX13_advance_b276 at hf
  replace hf := tg_i hf; obtain ⟨t1, hf⟩ := hf
  obtain ⟨h2, e2⟩ : ∃ z, z = (sI h s0 14 s1) := ⟨_, rfl⟩; replace hf := lt_i hf h2 e2
  have F3 := FrC.sI F0 P_s0 t1 (Or.inl (by decide)) e2
  cases hf
  exact F3
set_option maxRecDepth 10000 in
set_option maxHeartbeats 2000000 in
theorem pX13_advance_b244_fr {P : Nat → Prop} {g : MT} {this : Nat} {k194 : CT → Option CT} {h : CT} {h0 : CT} {h9 : CT} (t0 : gT g this = 12) (P_this : P this) (hk194 : ∀ (v0 : CT), FrC P [(12, 14), (12, 15), (12, 16), (12, 17), (12, 2018)] g h0 v0 → k194 v0 = some h9 → FrC P [(12, 14), (12, 15), (12, 16), (12, 17), (12, 2018)] g h0 h9) (F0 : FrC P [(12, 14), (12, 15), (12, 16), (12, 17), (12, 2018)] g h0 h) (hf : pX13_advance_b244 g this k194 h = some h9) : FrC P [(12, 14), (12, 15), (12, 16), (12, 17), (12, 2018)] g h0 h9 := by
  unfold pX13_advance_b244 at hf
  obtain ⟨h1, e1⟩ : ∃ z, z = (sI h this 16 ((hI h this 16) + 1)) := ⟨_, rfl⟩; replace hf := lt_i hf h1 e1
  have F2 := FrC.sI F0 P_this t0 (Or.inl (by decide)) e1
  exact hk194 _ F2 hf
set_option maxRecDepth 10000 in
set_option maxHeartbeats 2000000 in
theorem pX13_advance_b194_fr {P : Nat → Prop} {g : MT} {this : Nat} {k194 : CT → Option CT} {h : CT} {h0 : CT} {h9 : CT} (t0 : gT g this = 12) (P_this : P this) (hk194 : ∀ (v0 : CT), FrC P [(12, 14), (12, 15), (12, 16), (12, 17), (12, 2018)] g h0 v0 → k194 v0 = some h9 → FrC P [(12, 14), (12, 15), (12, 16), (12, 17), (12, 2018)] g h0 h9) (F0 : FrC P [(12, 14), (12, 15), (12, 16), (12, 17), (12, 2018)] g h0 h) (hf : pX13_advance_b194 g this k194 h = some h9) : FrC P [(12, 14), (12, 15), (12, 16), (12, 17), (12, 2018)] g h0 h9 := by
  unfold pX13_advance_b194 at hf
  replace hf := bd_i hf; obtain ⟨x1, q1, hf⟩ := hf
  by_cases c2 : (pX13_isDigit x1) = 0
  · rw [if_pos c2] at hf
    by_cases c3 : ((hI h this 16) - (hI h this 15)) ≤ 4
    · rw [if_pos c3] at hf
      exact pX13_advance_b276_fr t0 P_this P_this F0 hf
    · rw [if_neg c3] at hf
      exact pX13_advance_b276_fr t0 P_this P_this F0 hf
  · rw [if_neg c2] at hf
    by_cases c4 : 4 ≤ ((hI h this 16) - (hI h this 15))
    · rw [if_pos c4] at hf
      exact pX13_advance_b244_fr t0 P_this hk194 F0 hf
    · rw [if_neg c4] at hf
      replace hf := bd_i hf; obtain ⟨x6, q5, hf⟩ := hf
      obtain ⟨h8, e6⟩ : ∃ z, z = (sI h this 17 (((10 * (hI h this 17)) + x6) - 48)) := ⟨_, rfl⟩; replace hf := lt_i hf h8 e6
      have F7 := FrC.sI F0 P_this t0 (Or.inl (by decide)) e6
      exact pX13_advance_b244_fr t0 P_this hk194 F7 hf
set_option maxRecDepth 10000 in
set_option maxHeartbeats 2000000 in
theorem pX13_advance_l194_fr {P : Nat → Prop} {g : MT} {this : Nat} {h0 : CT} {h9 : CT} (t0 : gT g this = 12) (P_this : P this) : ∀ (n : Nat) (v1 : CT), FrC P [(12, 14), (12, 15), (12, 16), (12, 17), (12, 2018)] g h0 v1 → pX13_advance_l194 g this n v1 = some h9 → FrC P [(12, 14), (12, 15), (12, 16), (12, 17), (12, 2018)] g h0 h9 := by
  intro n
  induction n with
  | zero => intro v1 F0 hf; cases hf
  | succ n ih => intro v1 F0 hf; exact pX13_advance_b194_fr t0 P_this ih F0 hf
set_option maxRecDepth 10000 in
set_option maxHeartbeats 2000000 in
theorem pX13_advance_b166_fr {P : Nat → Prop} {g : MT} {this : Nat} {k109 : CT → Option CT} {s0 : Nat} {s1 : Int64} {h : CT} {h0 : CT} {h9 : CT} (t0 : gT g this = 12) (P_this : P this) (hk109 : ∀ (v0 : CT), FrC P [(12, 14), (12, 15), (12, 16), (12, 17), (12, 2018)] g h0 v0 → k109 v0 = some h9 → FrC P [(12, 14), (12, 15), (12, 16), (12, 17), (12, 2018)] g h0 h9) (P_s0 : P s0) (F0 : FrC P [(12, 14), (12, 15), (12, 16), (12, 17), (12, 2018)] g h0 h) (hf : pX13_advance_b166 g this k109 s0 s1 h = some h9) : FrC P [(12, 14), (12, 15), (12, 16), (12, 17), (12, 2018)] g h0 h9 := by
  unfold pX13_advance_b166 at hf
  replace hf := tg_i hf; obtain ⟨t1, hf⟩ := hf
  obtain ⟨h2, e2⟩ : ∃ z, z = (sL h s0 18 s1) := ⟨_, rfl⟩; replace hf := lt_i hf h2 e2
  have F3 := FrC.sL F0 P_s0 t1 (Or.inl (by decide)) e2
  obtain ⟨h3, e4⟩ : ∃ z, z = (sI h2 this 16 ((hI h2 this 16) + 1)) := ⟨_, rfl⟩; replace hf := lt_i hf h3 e4
  have F5 := FrC.sI F3 P_this t0 (Or.inl (by decide)) e4
  exact hk109 _ F5 hf
set_option maxRecDepth 10000 in
set_option maxHeartbeats 2000000 in
theorem pX13_advance_b109_fr {P : Nat → Prop} {g : MT} {this : Nat} {k109 : CT → Option CT} {h : CT} {h0 : CT} {h9 : CT} (t0 : gT g this = 12) (P_this : P this) (hk109 : ∀ (v0 : CT), FrC P [(12, 14), (12, 15), (12, 16), (12, 17), (12, 2018)] g h0 v0 → k109 v0 = some h9 → FrC P [(12, 14), (12, 15), (12, 16), (12, 17), (12, 2018)] g h0 h9) (F0 : FrC P [(12, 14), (12, 15), (12, 16), (12, 17), (12, 2018)] g h0 h) (hf : pX13_advance_b109 g this k109 h = some h9) : FrC P [(12, 14), (12, 15), (12, 16), (12, 17), (12, 2018)] g h0 h9 := by
  unfold pX13_advance_b109 at hf
  replace hf := bd_i hf; obtain ⟨x1, q1, hf⟩ := hf
  by_cases c2 : (pX13_isLetter x1) = 0
  · rw [if_pos c2] at hf
    cases hf
    exact F0
  · rw [if_neg c2] at hf
    by_cases c3 : 8 ≤ ((hI h this 16) - (hI h this 15))
    · rw [if_pos c3] at hf
      exact pX13_advance_b166_fr t0 P_this hk109 P_this F0 hf
    · rw [if_neg c3] at hf
      replace hf := bd_i hf; obtain ⟨x5, q4, hf⟩ := hf
      exact pX13_advance_b166_fr t0 P_this hk109 P_this F0 hf
set_option maxRecDepth 10000 in
set_option maxHeartbeats 2000000 in
theorem pX13_advance_l109_fr {P : Nat → Prop} {g : MT} {this : Nat} {h0 : CT} {h9 : CT} (t0 : gT g this = 12) (P_this : P this) : ∀ (n : Nat) (v1 : CT), FrC P [(12, 14), (12, 15), (12, 16), (12, 17), (12, 2018)] g h0 v1 → pX13_advance_l109 g this n v1 = some h9 → FrC P [(12, 14), (12, 15), (12, 16), (12, 17), (12, 2018)] g h0 h9 := by
  intro n
  induction n with
  | zero => intro v1 F0 hf; cases hf
  | succ n ih => intro v1 F0 hf; exact pX13_advance_b109_fr t0 P_this ih F0 hf
set_option maxRecDepth 10000 in
set_option maxHeartbeats 2000000 in
theorem pX13_advance_b58_fr {P : Nat → Prop} {g : MT} {this : Nat} {h : CT} {h0 : CT} {h9 : CT} (t0 : gT g this = 12) (P_this : P this) (F0 : FrC P [(12, 14), (12, 15), (12, 16), (12, 17), (12, 2018)] g h0 h) (hf : pX13_advance_b58 g this h = some h9) : FrC P [(12, 14), (12, 15), (12, 16), (12, 17), (12, 2018)] g h0 h9 := by
  unfold pX13_advance_b58 at hf
  obtain ⟨h1, e1⟩ : ∃ z, z = (sI h this 16 (hI h this 15)) := ⟨_, rfl⟩; replace hf := lt_i hf h1 e1
  have F2 := FrC.sI F0 P_this t0 (Or.inl (by decide)) e1
  by_cases c3 : (hI h1 this 15) < (hI h1 this 9)
  · rw [if_pos c3] at hf
    replace hf := bd_i hf; obtain ⟨x3, q4, hf⟩ := hf
    by_cases c5 : (pX13_isLetter x3) = 0
    · rw [if_pos c5] at hf
      by_cases c6 : (pX13_isDigit x3) = 0
      · rw [if_pos c6] at hf
        obtain ⟨h7, e7⟩ : ∃ z, z = (sI h1 this 16 ((hI h1 this 15) + 1)) := ⟨_, rfl⟩; replace hf := lt_i hf h7 e7
        have F8 := FrC.sI F2 P_this t0 (Or.inl (by decide)) e7
        by_cases c9 : x3 = 59
        · rw [if_pos c9] at hf
          exact pX13_advance_b304_fr t0 P_this P_this F8 hf
        · rw [if_neg c9] at hf
          exact pX13_advance_b304_fr t0 P_this P_this F8 hf
      · rw [if_neg c6] at hf
        obtain ⟨h9, e10⟩ : ∃ z, z = (sI h1 this 17 0) := ⟨_, rfl⟩; replace hf := lt_i hf h9 e10
        have F11 := FrC.sI F2 P_this t0 (Or.inl (by decide)) e10
        exact pX13_advance_l194_fr t0 P_this _ _ F11 hf
    · rw [if_neg c5] at hf
      obtain ⟨h10, e12⟩ : ∃ z, z = (sI h1 this 14 1) := ⟨_, rfl⟩; replace hf := lt_i hf h10 e12
      have F13 := FrC.sI F2 P_this t0 (Or.inl (by decide)) e12
      obtain ⟨h11, e14⟩ : ∃ z, z = (sL h10 this 18 0) := ⟨_, rfl⟩; replace hf := lt_i hf h11 e14
      have F15 := FrC.sL F13 P_this t0 (Or.inl (by decide)) e14
      exact pX13_advance_l109_fr t0 P_this _ _ F15 hf
  · rw [if_neg c3] at hf
    obtain ⟨h12, e16⟩ : ∃ z, z = (sI h1 this 14 0) := ⟨_, rfl⟩; replace hf := lt_i hf h12 e16
    have F17 := FrC.sI F2 P_this t0 (Or.inl (by decide)) e16
    cases hf
    exact F17
set_option maxRecDepth 10000 in
set_option maxHeartbeats 2000000 in
theorem pX13_advance_b45_fr {P : Nat → Prop} {g : MT} {this : Nat} {k8 : CT → Option CT} {h : CT} {h0 : CT} {h9 : CT} (t0 : gT g this = 12) (P_this : P this) (hk8 : ∀ (v0 : CT), FrC P [(12, 14), (12, 15), (12, 16), (12, 17), (12, 2018)] g h0 v0 → k8 v0 = some h9 → FrC P [(12, 14), (12, 15), (12, 16), (12, 17), (12, 2018)] g h0 h9) (F0 : FrC P [(12, 14), (12, 15), (12, 16), (12, 17), (12, 2018)] g h0 h) (hf : pX13_advance_b45 g this k8 h = some h9) : FrC P [(12, 14), (12, 15), (12, 16), (12, 17), (12, 2018)] g h0 h9 := by
  unfold pX13_advance_b45 at hf
  obtain ⟨h1, e1⟩ : ∃ z, z = (sI h this 15 ((hI h this 15) + 1)) := ⟨_, rfl⟩; replace hf := lt_i hf h1 e1
  have F2 := FrC.sI F0 P_this t0 (Or.inl (by decide)) e1
  exact hk8 _ F2 hf
set_option maxRecDepth 10000 in
set_option maxHeartbeats 2000000 in
theorem pX13_advance_b8_fr {P : Nat → Prop} {g : MT} {this : Nat} {k8 : CT → Option CT} {h : CT} {h0 : CT} {h9 : CT} (t0 : gT g this = 12) (P_this : P this) (hk8 : ∀ (v0 : CT), FrC P [(12, 14), (12, 15), (12, 16), (12, 17), (12, 2018)] g h0 v0 → k8 v0 = some h9 → FrC P [(12, 14), (12, 15), (12, 16), (12, 17), (12, 2018)] g h0 h9) (F0 : FrC P [(12, 14), (12, 15), (12, 16), (12, 17), (12, 2018)] g h0 h) (hf : pX13_advance_b8 g this k8 h = some h9) : FrC P [(12, 14), (12, 15), (12, 16), (12, 17), (12, 2018)] g h0 h9 := by
  unfold pX13_advance_b8 at hf
  by_cases c1 : (hI h this 9) ≤ (hI h this 15)
  · rw [if_pos c1] at hf
    exact pX13_advance_b58_fr t0 P_this F0 hf
  · rw [if_neg c1] at hf
    replace hf := bd_i hf; obtain ⟨x2, q2, hf⟩ := hf
    by_cases c3 : x2 = 10
    · rw [if_pos c3] at hf
      exact pX13_advance_b45_fr t0 P_this hk8 F0 hf
    · rw [if_neg c3] at hf
      replace hf := bd_i hf; obtain ⟨x5, q4, hf⟩ := hf
      by_cases c5 : x5 = 32
      · rw [if_pos c5] at hf
        exact pX13_advance_b45_fr t0 P_this hk8 F0 hf
      · rw [if_neg c5] at hf
        exact pX13_advance_b58_fr t0 P_this F0 hf
set_option maxRecDepth 10000 in
set_option maxHeartbeats 2000000 in
theorem pX13_advance_l8_fr {P : Nat → Prop} {g : MT} {this : Nat} {h0 : CT} {h9 : CT} (t0 : gT g this = 12) (P_this : P this) : ∀ (n : Nat) (v1 : CT), FrC P [(12, 14), (12, 15), (12, 16), (12, 17), (12, 2018)] g h0 v1 → pX13_advance_l8 g this n v1 = some h9 → FrC P [(12, 14), (12, 15), (12, 16), (12, 17), (12, 2018)] g h0 h9 := by
  intro n
  induction n with
  | zero => intro v1 F0 hf; cases hf
  | succ n ih => intro v1 F0 hf; exact pX13_advance_b8_fr t0 P_this ih F0 hf
set_option maxRecDepth 10000 in
set_option maxHeartbeats 2000000 in
theorem pX13_advance_fr {P : Nat → Prop} {g : MT} {h : CT} {this : Nat} {h9 : CT} (hc : Cl P h) (P_this : P this) (hf : pX13_advance g h this = some h9) : FrC P [(12, 14), (12, 15), (12, 16), (12, 17), (12, 2018)] g h h9 := by
  have F0 : FrC P [(12, 14), (12, 15), (12, 16), (12, 17), (12, 2018)] g h h := FrC.rf hc
  unfold pX13_advance at hf
  replace hf := tg_i hf; obtain ⟨t1, hf⟩ := hf
  obtain ⟨h1, e2⟩ : ∃ z, z = (sI h this 15 (hI h this 16)) := ⟨_, rfl⟩; replace hf := lt_i hf h1 e2
  have F3 := FrC.sI F0 P_this t1 (Or.inl (by decide)) e2
  exact pX13_advance_l8_fr t1 P_this _ _ F3 hf
set_option maxRecDepth 10000 in
set_option maxHeartbeats 2000000 in
theorem pX13_fail_fr {P : Nat → Prop} {g : MT} {h : CT} {this : Nat} {p1 : Int32} {p2 : Int32} {h9 : CT} (hc : Cl P h) (P_this : P this) (hf : pX13_fail g h this p1 p2 = some h9) : FrC P [(12, 12), (12, 13)] g h h9 := by
  have F0 : FrC P [(12, 12), (12, 13)] g h h := FrC.rf hc
  unfold pX13_fail at hf
  replace hf := tg_i hf; obtain ⟨t1, hf⟩ := hf
  by_cases c2 : (hI h this 12) ≤ 0
  · rw [if_pos c2] at hf
    obtain ⟨h2, e3⟩ : ∃ z, z = (sI h this 12 p1) := ⟨_, rfl⟩; replace hf := lt_i hf h2 e3
    have F4 := FrC.sI F0 P_this t1 (Or.inl (by decide)) e3
    obtain ⟨h3, e5⟩ : ∃ z, z = (sI h2 this 13 p2) := ⟨_, rfl⟩; replace hf := lt_i hf h3 e5
    have F6 := FrC.sI F4 P_this t1 (Or.inl (by decide)) e5
    cases hf
    exact F6
  · rw [if_neg c2] at hf
    cases hf
    exact F0
set_option maxRecDepth 10000 in
set_option maxHeartbeats 2000000 in
theorem pX13_amiss_b14_fr {P : Nat → Prop} {g : MT} {this : Nat} {s0 : Nat} {s1 : Int32} {h : CT} {h0 : CT} {h9 : CT} (t0 : gT g this = 12) (P_this : P this) (P_s0 : P s0) (F0 : FrC P [(12, 12), (12, 13)] g h0 h) (hf : pX13_amiss_b14 g this s0 s1 h = some h9) : FrC P [(12, 12), (12, 13)] g h0 h9 := by
  unfold pX13_amiss_b14 at hf
  replace hf := tg_i hf; obtain ⟨t1, hf⟩ := hf
  replace hf := bd_i hf; obtain ⟨h2, q2, hf⟩ := hf
  have F3 := FrC.trans F0 (pX13_fail_fr F0.1 P_s0 q2) (by decide)
  cases hf
  exact F3
set_option maxRecDepth 10000 in
set_option maxHeartbeats 2000000 in
theorem pX13_amiss_fr {P : Nat → Prop} {g : MT} {h : CT} {this : Nat} {h9 : CT} (hc : Cl P h) (P_this : P this) (hf : pX13_amiss g h this = some h9) : FrC P [(12, 12), (12, 13)] g h h9 := by
  have F0 : FrC P [(12, 12), (12, 13)] g h h := FrC.rf hc
  unfold pX13_amiss at hf
  replace hf := tg_i hf; obtain ⟨t1, hf⟩ := hf
  by_cases c2 : (hI h this 14) = 4
  · rw [if_pos c2] at hf
    exact pX13_amiss_b14_fr t1 P_this P_this F0 hf
  · rw [if_neg c2] at hf
    exact pX13_amiss_b14_fr t1 P_this P_this F0 hf
set_option maxRecDepth 10000 in
set_option maxHeartbeats 2000000 in
theorem pX13_must_fr {P : Nat → Prop} {g : MT} {h : CT} {this : Nat} {p1 : Int32} {h9 : CT} (hc : Cl P h) (P_this : P this) (hf : pX13_must g h this p1 = some h9) : FrC P [(12, 12), (12, 13), (12, 14), (12, 15), (12, 16), (12, 17), (12, 2018)] g h h9 := by
  have F0 : FrC P [(12, 12), (12, 13), (12, 14), (12, 15), (12, 16), (12, 17), (12, 2018)] g h h := FrC.rf hc
  unfold pX13_must at hf
  replace hf := tg_i hf; obtain ⟨t1, hf⟩ := hf
  by_cases c2 : (hI h this 12) ≤ 0
  · rw [if_pos c2] at hf
    by_cases c3 : p1 = 0
    · rw [if_pos c3] at hf
      replace hf := bd_i hf; obtain ⟨h3, q4, hf⟩ := hf
      have F5 := FrC.trans F0 (pX13_amiss_fr F0.1 P_this q4) (by decide)
      cases hf
      exact F5
    · rw [if_neg c3] at hf
      replace hf := bd_i hf; obtain ⟨h5, q6, hf⟩ := hf
      have F7 := FrC.trans F0 (pX13_advance_fr F0.1 P_this q6) (by decide)
      cases hf
      exact F7
  · rw [if_neg c2] at hf
    cases hf
    exact F0
set_option maxRecDepth 10000 in
set_option maxHeartbeats 2000000 in
theorem pX13_countOf_b50_fr {P : Nat → Prop} {g : MT} {this : Nat} {p1 : Int32} {p2 : Int32} {h : CT} {h0 : CT} {r9 : Int32} {h9 : CT} (t0 : gT g this = 12) (P_this : P this) (F0 : FrC P [(12, 12), (12, 13), (12, 14), (12, 15), (12, 16), (12, 17), (12, 2018)] g h0 h) (hf : pX13_countOf_b50 g this p1 p2 h = some (r9, h9)) : FrC P [(12, 12), (12, 13), (12, 14), (12, 15), (12, 16), (12, 17), (12, 2018)] g h0 h9 := by
  unfold pX13_countOf_b50 at hf
  by_cases c1 : (hI h this 12) ≤ 0
  · rw [if_pos c1] at hf
    obtain ⟨x2, e2⟩ : ∃ z, z = (hI h this 17) := ⟨_, rfl⟩; replace hf := lt_i hf x2 e2
    replace hf := bd_i hf; obtain ⟨h3, q3, hf⟩ := hf
    have F4 := FrC.trans F0 (pX13_advance_fr F0.1 P_this q3) (by decide)
    cases hf
    exact F4
  · rw [if_neg c1] at hf
    cases hf
    exact F0
set_option maxRecDepth 10000 in
set_option maxHeartbeats 2000000 in
theorem pX13_countOf_b19_fr {P : Nat → Prop} {g : MT} {this : Nat} {p1 : Int32} {p2 : Int32} {h : CT} {h0 : CT} {r9 : Int32} {h9 : CT} (t0 : gT g this = 12) (P_this : P this) (F0 : FrC P [(12, 12), (12, 13), (12, 14), (12, 15), (12, 16), (12, 17), (12, 2018)] g h0 h) (hf : pX13_countOf_b19 g this p1 p2 h = some (r9, h9)) : FrC P [(12, 12), (12, 13), (12, 14), (12, 15), (12, 16), (12, 17), (12, 2018)] g h0 h9 := by
  unfold pX13_countOf_b19 at hf
  by_cases c1 : (hI h this 12) = 0
  · rw [if_pos c1] at hf
    by_cases c2 : (pX13_isIn (Int32.toInt64 (hI h this 17)) (Int32.toInt64 p1) (Int32.toInt64 p2)) = 0
    · rw [if_pos c2] at hf
      replace hf := bd_i hf; obtain ⟨h3, q3, hf⟩ := hf
      have F4 := FrC.trans F0 (pX13_fail_fr F0.1 P_this q3) (by decide)
      exact pX13_countOf_b50_fr t0 P_this F4 hf
    · rw [if_neg c2] at hf
      exact pX13_countOf_b50_fr t0 P_this F0 hf
  · rw [if_neg c1] at hf
    exact pX13_countOf_b50_fr t0 P_this F0 hf
set_option maxRecDepth 10000 in
set_option maxHeartbeats 2000000 in
theorem pX13_countOf_fr {P : Nat → Prop} {g : MT} {h : CT} {this : Nat} {p1 : Int32} {p2 : Int32} {r9 : Int32} {h9 : CT} (hc : Cl P h) (P_this : P this) (hf : pX13_countOf g h this p1 p2 = some (r9, h9)) : FrC P [(12, 12), (12, 13), (12, 14), (12, 15), (12, 16), (12, 17), (12, 2018)] g h h9 := by
  have F0 : FrC P [(12, 12), (12, 13), (12, 14), (12, 15), (12, 16), (12, 17), (12, 2018)] g h h := FrC.rf hc
  unfold pX13_countOf at hf
  replace hf := tg_i hf; obtain ⟨t1, hf⟩ := hf
  by_cases c2 : (hI h this 12) = 0
  · rw [if_pos c2] at hf
    by_cases c3 : (hI h this 14) = 2
    · rw [if_pos c3] at hf
      exact pX13_countOf_b19_fr t1 P_this F0 hf
    · rw [if_neg c3] at hf
      replace hf := bd_i hf; obtain ⟨h3, q4, hf⟩ := hf
      have F5 := FrC.trans F0 (pX13_amiss_fr F0.1 P_this q4) (by decide)
      exact pX13_countOf_b19_fr t1 P_this F5 hf
  · rw [if_neg c2] at hf
    exact pX13_countOf_b19_fr t1 P_this F0 hf
set_option maxRecDepth 10000 in
set_option maxHeartbeats 2000000 in
theorem pX13_readRow_b30_fr {P : Nat → Prop} {g : MT} {this : Nat} {l1 : Int32} {s0 : Nat} {s1 : Int32} {h : CT} {h0 : CT} {r9 : Int32} {h9 : CT} (t0 : gT g this = 12) (P_this : P this) (P_s0 : P s0) (F0 : FrC P [(12, 12), (12, 13), (12, 14), (12, 15), (12, 16), (12, 17), (12, 2018)] g h0 h) (hf : pX13_readRow_b30 g this l1 s0 s1 h = some (r9, h9)) : FrC P [(12, 12), (12, 13), (12, 14), (12, 15), (12, 16), (12, 17), (12, 2018)] g h0 h9 := by
  unfold pX13_readRow_b30 at hf
  replace hf := tg_i hf; obtain ⟨t1, hf⟩ := hf
  replace hf := bd_i hf; obtain ⟨h2, q2, hf⟩ := hf
  have F3 := FrC.trans F0 (pX13_must_fr F0.1 P_s0 q2) (by decide)
  cases hf
  exact F3
set_option maxRecDepth 10000 in
set_option maxHeartbeats 2000000 in
theorem pX13_readRow_b19_fr {P : Nat → Prop} {g : MT} {this : Nat} {s0 : Int32} {h : CT} {h0 : CT} {r9 : Int32} {h9 : CT} (t0 : gT g this = 12) (P_this : P this) (F0 : FrC P [(12, 12), (12, 13), (12, 14), (12, 15), (12, 16), (12, 17), (12, 2018)] g h0 h) (hf : pX13_readRow_b19 g this s0 h = some (r9, h9)) : FrC P [(12, 12), (12, 13), (12, 14), (12, 15), (12, 16), (12, 17), (12, 2018)] g h0 h9 := by
  unfold pX13_readRow_b19 at hf
  by_cases c1 : s0 < 0
  · rw [if_pos c1] at hf
    exact pX13_readRow_b30_fr t0 P_this P_this F0 hf
  · rw [if_neg c1] at hf
    exact pX13_readRow_b30_fr t0 P_this P_this F0 hf
set_option maxRecDepth 10000 in
set_option maxHeartbeats 2000000 in
theorem pX13_readRow_fr {P : Nat → Prop} {g : MT} {h : CT} {this : Nat} {r9 : Int32} {h9 : CT} (hc : Cl P h) (P_this : P this) (hf : pX13_readRow g h this = some (r9, h9)) : FrC P [(12, 12), (12, 13), (12, 14), (12, 15), (12, 16), (12, 17), (12, 2018)] g h h9 := by
  have F0 : FrC P [(12, 12), (12, 13), (12, 14), (12, 15), (12, 16), (12, 17), (12, 2018)] g h h := FrC.rf hc
  unfold pX13_readRow at hf
  replace hf := tg_i hf; obtain ⟨t1, hf⟩ := hf
  by_cases c2 : (hI h this 12) ≤ 0
  · rw [if_pos c2] at hf
    replace hf := bd_i hf; obtain ⟨x2, q3, hf⟩ := hf
    exact pX13_readRow_b19_fr t1 P_this F0 hf
  · rw [if_neg c2] at hf
    exact pX13_readRow_b19_fr t1 P_this F0 hf
set_option maxRecDepth 10000 in
set_option maxHeartbeats 2000000 in
theorem pX13_readScalar_b29_fr {P : Nat → Prop} {g : MT} {this : Nat} {l1 : Int32} {s0 : Nat} {s1 : Int32} {h : CT} {h0 : CT} {r9 : Int32} {h9 : CT} (t0 : gT g this = 12) (P_this : P this) (P_s0 : P s0) (F0 : FrC P [(12, 12), (12, 13), (12, 14), (12, 15), (12, 16), (12, 17), (12, 2018)] g h0 h) (hf : pX13_readScalar_b29 g this l1 s0 s1 h = some (r9, h9)) : FrC P [(12, 12), (12, 13), (12, 14), (12, 15), (12, 16), (12, 17), (12, 2018)] g h0 h9 := by
  unfold pX13_readScalar_b29 at hf
  replace hf := tg_i hf; obtain ⟨t1, hf⟩ := hf
  replace hf := bd_i hf; obtain ⟨h2, q2, hf⟩ := hf
  have F3 := FrC.trans F0 (pX13_must_fr F0.1 P_s0 q2) (by decide)
  cases hf
  exact F3
set_option maxRecDepth 10000 in
set_option maxHeartbeats 2000000 in
theorem pX13_readScalar_b18_fr {P : Nat → Prop} {g : MT} {this : Nat} {s0 : Int32} {h : CT} {h0 : CT} {r9 : Int32} {h9 : CT} (t0 : gT g this = 12) (P_this : P this) (F0 : FrC P [(12, 12), (12, 13), (12, 14), (12, 15), (12, 16), (12, 17), (12, 2018)] g h0 h) (hf : pX13_readScalar_b18 g this s0 h = some (r9, h9)) : FrC P [(12, 12), (12, 13), (12, 14), (12, 15), (12, 16), (12, 17), (12, 2018)] g h0 h9 := by
  unfold pX13_readScalar_b18 at hf
  by_cases c1 : s0 < 0
  · rw [if_pos c1] at hf
    exact pX13_readScalar_b29_fr t0 P_this P_this F0 hf
  · rw [if_neg c1] at hf
    exact pX13_readScalar_b29_fr t0 P_this P_this F0 hf
set_option maxRecDepth 10000 in
set_option maxHeartbeats 2000000 in
theorem pX13_readScalar_fr {P : Nat → Prop} {g : MT} {h : CT} {this : Nat} {r9 : Int32} {h9 : CT} (hc : Cl P h) (P_this : P this) (hf : pX13_readScalar g h this = some (r9, h9)) : FrC P [(12, 12), (12, 13), (12, 14), (12, 15), (12, 16), (12, 17), (12, 2018)] g h h9 := by
  have F0 : FrC P [(12, 12), (12, 13), (12, 14), (12, 15), (12, 16), (12, 17), (12, 2018)] g h h := FrC.rf hc
  unfold pX13_readScalar at hf
  replace hf := tg_i hf; obtain ⟨t1, hf⟩ := hf
  by_cases c2 : (hI h this 12) ≤ 0
  · rw [if_pos c2] at hf
    replace hf := bd_i hf; obtain ⟨x2, q3, hf⟩ := hf
    exact pX13_readScalar_b18_fr t1 P_this F0 hf
  · rw [if_neg c2] at hf
    exact pX13_readScalar_b18_fr t1 P_this F0 hf
set_option maxRecDepth 10000 in
set_option maxHeartbeats 2000000 in
theorem pX13_readAt_fr {P : Nat → Prop} {g : MT} {h : CT} {this : Nat} {r9 : Int32} {h9 : CT} (hc : Cl P h) (P_this : P this) (hf : pX13_readAt g h this = some (r9, h9)) : FrC P [(12, 12), (12, 13), (12, 14), (12, 15), (12, 16), (12, 17), (12, 2018)] g h h9 := by
  have F0 : FrC P [(12, 12), (12, 13), (12, 14), (12, 15), (12, 16), (12, 17), (12, 2018)] g h h := FrC.rf hc
  unfold pX13_readAt at hf
  replace hf := tg_i hf; obtain ⟨t1, hf⟩ := hf
  replace hf := bd_i hf; obtain ⟨x1, q2, hf⟩ := hf
  replace hf := bd_i hf; obtain ⟨h3, q3, hf⟩ := hf
  have F4 := FrC.trans F0 (pX13_must_fr F0.1 P_this q3) (by decide)
  replace hf := bd2_i hf; obtain ⟨x7, h5, q5, hf⟩ := hf
  have F6 := FrC.trans F4 (pX13_countOf_fr F4.1 P_this q5) (by decide)
  cases hf
  exact F6
set_option maxRecDepth 10000 in
set_option maxHeartbeats 2000000 in
theorem pX13_lay_b2_fr {P : Nat → Prop} {g : MT} {this : Nat} {p1 : Int32} {k2 : Int32 → CT → Option CT} {l2 : Int32} {h : CT} {h0 : CT} {h9 : CT} (t0 : gT g this = 12) (P_this : P this) (hk2 : ∀ (v0 : Int32) (v1 : CT), FrC P [(12, 8), (23, 1000)] g h0 v1 → k2 v0 v1 = some h9 → FrC P [(12, 8), (23, 1000)] g h0 h9) (F0 : FrC P [(12, 8), (23, 1000)] g h0 h) (hf : pX13_lay_b2 g this p1 k2 l2 h = some h9) : FrC P [(12, 8), (23, 1000)] g h0 h9 := by
  unfold pX13_lay_b2 at hf
  by_cases c1 : l2 < 0
  · rw [if_pos c1] at hf
    cases hf
    exact F0
  · rw [if_neg c1] at hf
    obtain ⟨r2, e2⟩ : ∃ z, z = (hR h this 7) := ⟨_, rfl⟩; replace hf := lt_i hf r2 e2
    replace hf := nn_i hf; obtain ⟨a2, e3, hf⟩ := hf
    replace hf := tg_i hf; obtain ⟨t4, hf⟩ := hf
    replace hf := (ix_i hf).2
    obtain ⟨h5, e5⟩ : ∃ z, z = (sI h a2 (Int32.toNatClampNeg (hI h this 8)) (vp_nar .byte (Int8.toInt32 (Int32.toInt8 (p1 >>> ((8 * l2) &&& 31)))))) := ⟨_, rfl⟩; replace hf := lt_i hf h5 e5
    have F6 := FrC.sI F0 ((fun b hb => F0.1 _ _ b P_this (e2.symm.trans hb)) _ e3) t4 (Or.inr (by decide)) e5
    obtain ⟨h6, e7⟩ : ∃ z, z = (sI h5 this 8 ((hI h5 this 8) + 1)) := ⟨_, rfl⟩; replace hf := lt_i hf h6 e7
    have F8 := FrC.sI F6 P_this t0 (Or.inl (by decide)) e7
    obtain ⟨x7, e9⟩ : ∃ z, z = (l2 + (-1)) := ⟨_, rfl⟩; replace hf := lt_i hf x7 e9
    exact hk2 _ _ F8 hf
set_option maxRecDepth 10000 in
set_option maxHeartbeats 2000000 in
theorem pX13_lay_l2_fr {P : Nat → Prop} {g : MT} {this : Nat} {p1 : Int32} {h0 : CT} {h9 : CT} (t0 : gT g this = 12) (P_this : P this) : ∀ (n : Nat) (v1 : Int32) (v2 : CT), FrC P [(12, 8), (23, 1000)] g h0 v2 → pX13_lay_l2 g this p1 n v1 v2 = some h9 → FrC P [(12, 8), (23, 1000)] g h0 h9 := by
  intro n
  induction n with
  | zero => intro v1 v2 F0 hf; cases hf
  | succ n ih => intro v1 v2 F0 hf; exact pX13_lay_b2_fr t0 P_this ih F0 hf
set_option maxRecDepth 10000 in
set_option maxHeartbeats 2000000 in
theorem pX13_lay_fr {P : Nat → Prop} {g : MT} {h : CT} {this : Nat} {p1 : Int32} {h9 : CT} (hc : Cl P h) (P_this : P this) (hf : pX13_lay g h this p1 = some h9) : FrC P [(12, 8), (23, 1000)] g h h9 := by
  have F0 : FrC P [(12, 8), (23, 1000)] g h h := FrC.rf hc
  unfold pX13_lay at hf
  replace hf := tg_i hf; obtain ⟨t1, hf⟩ := hf
  exact pX13_lay_l2_fr t1 P_this _ _ _ F0 hf
set_option maxRecDepth 10000 in
set_option maxHeartbeats 2000000 in
theorem pX13_fault_fr {P : Nat → Prop} {g : MT} {h : CT} {this : Nat} {p1 : Int32} {r9 : Int32} {h9 : CT} (hc : Cl P h) (P_this : P this) (hf : pX13_fault g h this p1 = some (r9, h9)) : FrC P [(12, 1)] g h h9 := by
  have F0 : FrC P [(12, 1)] g h h := FrC.rf hc
  unfold pX13_fault at hf
  replace hf := tg_i hf; obtain ⟨t1, hf⟩ := hf
  obtain ⟨h1, e2⟩ : ∃ z, z = (sI h this 1 0) := ⟨_, rfl⟩; replace hf := lt_i hf h1 e2
  have F3 := FrC.sI F0 P_this t1 (Or.inl (by decide)) e2
  by_cases c4 : p1 = 0
  · rw [if_pos c4] at hf
    cases hf
    exact F3
  · rw [if_neg c4] at hf
    by_cases c5 : p1 = 1
    · rw [if_pos c5] at hf
      cases hf
      exact F3
    · rw [if_neg c5] at hf
      cases hf
      exact F3
set_option maxRecDepth 10000 in
set_option maxHeartbeats 2000000 in
theorem pX13_readMemory_b35_fr {P : Nat → Prop} {g : MT} {this : Nat} {p1 : Int32} {p2 : Int32} {h : CT} {h0 : CT} {h9 : CT} (t0 : gT g this = 12) (P_this : P this) (F0 : FrC P [(12, 12), (12, 13), (12, 14), (12, 15), (12, 16), (12, 17), (12, 2018), (20, 1000)] g h0 h) (hf : pX13_readMemory_b35 g this p1 p2 h = some h9) : FrC P [(12, 12), (12, 13), (12, 14), (12, 15), (12, 16), (12, 17), (12, 2018), (20, 1000)] g h0 h9 := by
  unfold pX13_readMemory_b35 at hf
  replace hf := bd_i hf; obtain ⟨x1, q1, hf⟩ := hf
  replace hf := bd_i hf; obtain ⟨h3, q2, hf⟩ := hf
  have F3 := FrC.trans F0 (pX13_must_fr F0.1 P_this q2) (by decide)
  obtain ⟨r5, e4⟩ : ∃ z, z = (hR h3 this 19) := ⟨_, rfl⟩; replace hf := lt_i hf r5 e4
  replace hf := bd2_i hf; obtain ⟨x8, h6, q5, hf⟩ := hf
  have F6 := FrC.trans F3 (pX13_readRow_fr F3.1 P_this q5) (by decide)
  replace hf := nn_i hf; obtain ⟨a5, e7, hf⟩ := hf
  replace hf := tg_i hf; obtain ⟨t8, hf⟩ := hf
  replace hf := (ix_i hf).2
  obtain ⟨h11, e9⟩ : ∃ z, z = (sI h6 a5 (Int32.toNatClampNeg (p1 + 3)) x8) := ⟨_, rfl⟩; replace hf := lt_i hf h11 e9
  have F10 := FrC.sI F6 ((fun b hb => F3.1 _ _ b P_this (e4.symm.trans hb)) _ e7) t8 (Or.inr (by decide)) e9
  cases hf
  exact F10
set_option maxRecDepth 10000 in
set_option maxHeartbeats 2000000 in
theorem pX13_readMemory_fr {P : Nat → Prop} {g : MT} {h : CT} {this : Nat} {p1 : Int32} {p2 : Int32} {h9 : CT} (hc : Cl P h) (P_this : P this) (hf : pX13_readMemory g h this p1 p2 = some h9) : FrC P [(12, 12), (12, 13), (12, 14), (12, 15), (12, 16), (12, 17), (12, 2018), (20, 1000)] g h h9 := by
  have F0 : FrC P [(12, 12), (12, 13), (12, 14), (12, 15), (12, 16), (12, 17), (12, 2018), (20, 1000)] g h h := FrC.rf hc
  unfold pX13_readMemory at hf
  replace hf := tg_i hf; obtain ⟨t1, hf⟩ := hf
  obtain ⟨r1, e2⟩ : ∃ z, z = (hR h this 19) := ⟨_, rfl⟩; replace hf := lt_i hf r1 e2
  replace hf := bd2_i hf; obtain ⟨x4, h2, q3, hf⟩ := hf
  have F4 := FrC.trans F0 (pX13_readRow_fr F0.1 P_this q3) (by decide)
  replace hf := nn_i hf; obtain ⟨a1, e5, hf⟩ := hf
  replace hf := tg_i hf; obtain ⟨t6, hf⟩ := hf
  replace hf := (ix_i hf).2
  obtain ⟨h7, e7⟩ : ∃ z, z = (sI h2 a1 (Int32.toNatClampNeg (p1 + 1)) x4) := ⟨_, rfl⟩; replace hf := lt_i hf h7 e7
  have F8 := FrC.sI F4 ((fun b hb => F0.1 _ _ b P_this (e2.symm.trans hb)) _ e5) t6 (Or.inr (by decide)) e7
  obtain ⟨r8, e9⟩ : ∃ z, z = (hR h7 this 19) := ⟨_, rfl⟩; replace hf := lt_i hf r8 e9
  replace hf := bd2_i hf; obtain ⟨x11, h9, q10, hf⟩ := hf
  have F11 := FrC.trans F8 (pX13_readAt_fr F8.1 P_this q10) (by decide)
  replace hf := nn_i hf; obtain ⟨a8, e12, hf⟩ := hf
  replace hf := tg_i hf; obtain ⟨t13, hf⟩ := hf
  replace hf := (ix_i hf).2
  obtain ⟨h14, e14⟩ : ∃ z, z = (sI h9 a8 (Int32.toNatClampNeg (p1 + 4)) x11) := ⟨_, rfl⟩; replace hf := lt_i hf h14 e14
  have F15 := FrC.sI F11 ((fun b hb => F8.1 _ _ b P_this (e9.symm.trans hb)) _ e12) t13 (Or.inr (by decide)) e14
  by_cases c16 : p2 = 5
  · rw [if_pos c16] at hf
    exact pX13_readMemory_b35_fr t1 P_this F15 hf
  · rw [if_neg c16] at hf
    by_cases c17 : p2 = 6
    · rw [if_pos c17] at hf
      exact pX13_readMemory_b35_fr t1 P_this F15 hf
    · rw [if_neg c17] at hf
      replace hf := bd_i hf; obtain ⟨x17, q18, hf⟩ := hf
      replace hf := bd_i hf; obtain ⟨h19, q19, hf⟩ := hf
      have F20 := FrC.trans F15 (pX13_must_fr F15.1 P_this q19) (by decide)
      obtain ⟨r21, e21⟩ : ∃ z, z = (hR h19 this 19) := ⟨_, rfl⟩; replace hf := lt_i hf r21 e21
      replace hf := bd2_i hf; obtain ⟨x24, h22, q22, hf⟩ := hf
      have F23 := FrC.trans F20 (pX13_countOf_fr F20.1 P_this q22) (by decide)
      replace hf := nn_i hf; obtain ⟨a21, e24, hf⟩ := hf
      replace hf := tg_i hf; obtain ⟨t25, hf⟩ := hf
      replace hf := (ix_i hf).2
      obtain ⟨h27, e26⟩ : ∃ z, z = (sI h22 a21 (Int32.toNatClampNeg (p1 + 5)) x24) := ⟨_, rfl⟩; replace hf := lt_i hf h27 e26
      have F27 := FrC.sI F23 ((fun b hb => F20.1 _ _ b P_this (e21.symm.trans hb)) _ e24) t25 (Or.inr (by decide)) e26
      cases hf
      exact F27
set_option maxRecDepth 10000 in
set_option maxHeartbeats 2000000 in
theorem pX13_readReckoned_b42_fr {P : Nat → Prop} {g : MT} {this : Nat} {p1 : Int32} {p2 : Int32} {h : CT} {h0 : CT} {h9 : CT} (t0 : gT g this = 12) (P_this : P this) (F0 : FrC P [(12, 12), (12, 13), (12, 14), (12, 15), (12, 16), (12, 17), (12, 2018), (20, 1000)] g h0 h) (hf : pX13_readReckoned_b42 g this p1 p2 h = some h9) : FrC P [(12, 12), (12, 13), (12, 14), (12, 15), (12, 16), (12, 17), (12, 2018), (20, 1000)] g h0 h9 := by
  unfold pX13_readReckoned_b42 at hf
  by_cases c1 : 0 < (hI h this 12)
  · rw [if_pos c1] at hf
    cases hf
    exact F0
  · rw [if_neg c1] at hf
    replace hf := bd_i hf; obtain ⟨x2, q2, hf⟩ := hf
    by_cases c3 : x2 = 0
    · rw [if_pos c3] at hf
      cases hf
      exact F0
    · rw [if_neg c3] at hf
      obtain ⟨r5, e4⟩ : ∃ z, z = (hR h this 19) := ⟨_, rfl⟩; replace hf := lt_i hf r5 e4
      replace hf := nn_i hf; obtain ⟨a5, e5, hf⟩ := hf
      replace hf := tg_i hf; obtain ⟨t6, hf⟩ := hf
      replace hf := (ix_i hf).2
      obtain ⟨h8, e7⟩ : ∃ z, z = (sI h a5 (Int32.toNatClampNeg (p1 + 6)) 1) := ⟨_, rfl⟩; replace hf := lt_i hf h8 e7
      have F8 := FrC.sI F0 ((fun b hb => F0.1 _ _ b P_this (e4.symm.trans hb)) _ e5) t6 (Or.inr (by decide)) e7
      replace hf := bd_i hf; obtain ⟨h9, q9, hf⟩ := hf
      have F10 := FrC.trans F8 (pX13_advance_fr F8.1 P_this q9) (by decide)
      cases hf
      exact F10
set_option maxRecDepth 10000 in
set_option maxHeartbeats 2000000 in
theorem pX13_readReckoned_fr {P : Nat → Prop} {g : MT} {h : CT} {this : Nat} {p1 : Int32} {p2 : Int32} {h9 : CT} (hc : Cl P h) (P_this : P this) (hf : pX13_readReckoned g h this p1 p2 = some h9) : FrC P [(12, 12), (12, 13), (12, 14), (12, 15), (12, 16), (12, 17), (12, 2018), (20, 1000)] g h h9 := by
  have F0 : FrC P [(12, 12), (12, 13), (12, 14), (12, 15), (12, 16), (12, 17), (12, 2018), (20, 1000)] g h h := FrC.rf hc
  unfold pX13_readReckoned at hf
  replace hf := tg_i hf; obtain ⟨t1, hf⟩ := hf
  obtain ⟨r1, e2⟩ : ∃ z, z = (hR h this 19) := ⟨_, rfl⟩; replace hf := lt_i hf r1 e2
  replace hf := bd2_i hf; obtain ⟨x4, h2, q3, hf⟩ := hf
  have F4 := FrC.trans F0 (pX13_readRow_fr F0.1 P_this q3) (by decide)
  replace hf := nn_i hf; obtain ⟨a1, e5, hf⟩ := hf
  replace hf := tg_i hf; obtain ⟨t6, hf⟩ := hf
  replace hf := (ix_i hf).2
  obtain ⟨h7, e7⟩ : ∃ z, z = (sI h2 a1 (Int32.toNatClampNeg (p1 + 1)) x4) := ⟨_, rfl⟩; replace hf := lt_i hf h7 e7
  have F8 := FrC.sI F4 ((fun b hb => F0.1 _ _ b P_this (e2.symm.trans hb)) _ e5) t6 (Or.inr (by decide)) e7
  obtain ⟨r8, e9⟩ : ∃ z, z = (hR h7 this 19) := ⟨_, rfl⟩; replace hf := lt_i hf r8 e9
  replace hf := bd2_i hf; obtain ⟨x11, h9, q10, hf⟩ := hf
  have F11 := FrC.trans F8 (pX13_readRow_fr F8.1 P_this q10) (by decide)
  replace hf := nn_i hf; obtain ⟨a8, e12, hf⟩ := hf
  replace hf := tg_i hf; obtain ⟨t13, hf⟩ := hf
  replace hf := (ix_i hf).2
  obtain ⟨h14, e14⟩ : ∃ z, z = (sI h9 a8 (Int32.toNatClampNeg (p1 + 2)) x11) := ⟨_, rfl⟩; replace hf := lt_i hf h14 e14
  have F15 := FrC.sI F11 ((fun b hb => F8.1 _ _ b P_this (e9.symm.trans hb)) _ e12) t13 (Or.inr (by decide)) e14
  by_cases c16 : 14 ≤ p2
  · rw [if_pos c16] at hf
    exact pX13_readReckoned_b42_fr t1 P_this F15 hf
  · rw [if_neg c16] at hf
    obtain ⟨r16, e17⟩ : ∃ z, z = (hR h14 this 19) := ⟨_, rfl⟩; replace hf := lt_i hf r16 e17
    replace hf := bd2_i hf; obtain ⟨x19, h17, q18, hf⟩ := hf
    have F19 := FrC.trans F15 (pX13_readRow_fr F15.1 P_this q18) (by decide)
    replace hf := nn_i hf; obtain ⟨a16, e20, hf⟩ := hf
    replace hf := tg_i hf; obtain ⟨t21, hf⟩ := hf
    replace hf := (ix_i hf).2
    obtain ⟨h22, e22⟩ : ∃ z, z = (sI h17 a16 (Int32.toNatClampNeg (p1 + 3)) x19) := ⟨_, rfl⟩; replace hf := lt_i hf h22 e22
    have F23 := FrC.sI F19 ((fun b hb => F15.1 _ _ b P_this (e17.symm.trans hb)) _ e20) t21 (Or.inr (by decide)) e22
    exact pX13_readReckoned_b42_fr t1 P_this F23 hf
set_option maxRecDepth 10000 in
set_option maxHeartbeats 2000000 in
theorem pX13_readRest_b33_fr {P : Nat → Prop} {g : MT} {this : Nat} {p1 : Int32} {p2 : Int32} {h : CT} {h0 : CT} {h9 : CT} (t0 : gT g this = 12) (P_this : P this) (F0 : FrC P [(12, 12), (12, 13), (12, 14), (12, 15), (12, 16), (12, 17), (12, 2018), (20, 1000)] g h0 h) (hf : pX13_readRest_b33 g this p1 p2 h = some h9) : FrC P [(12, 12), (12, 13), (12, 14), (12, 15), (12, 16), (12, 17), (12, 2018), (20, 1000)] g h0 h9 := by
  unfold pX13_readRest_b33 at hf
  obtain ⟨r1, e1⟩ : ∃ z, z = (hR h this 19) := ⟨_, rfl⟩; replace hf := lt_i hf r1 e1
  replace hf := bd2_i hf; obtain ⟨x4, h2, q2, hf⟩ := hf
  have F3 := FrC.trans F0 (pX13_readRow_fr F0.1 P_this q2) (by decide)
  replace hf := nn_i hf; obtain ⟨a1, e4, hf⟩ := hf
  replace hf := tg_i hf; obtain ⟨t5, hf⟩ := hf
  replace hf := (ix_i hf).2
  obtain ⟨h7, e6⟩ : ∃ z, z = (sI h2 a1 (Int32.toNatClampNeg (p1 + 1)) x4) := ⟨_, rfl⟩; replace hf := lt_i hf h7 e6
  have F7 := FrC.sI F3 ((fun b hb => F0.1 _ _ b P_this (e1.symm.trans hb)) _ e4) t5 (Or.inr (by decide)) e6
  cases hf
  exact F7
set_option maxRecDepth 10000 in
set_option maxHeartbeats 2000000 in
theorem pX13_readRest_b139_fr {P : Nat → Prop} {g : MT} {this : Nat} {p1 : Int32} {p2 : Int32} {h : CT} {h0 : CT} {h9 : CT} (t0 : gT g this = 12) (P_this : P this) (F0 : FrC P [(12, 12), (12, 13), (12, 14), (12, 15), (12, 16), (12, 17), (12, 2018), (20, 1000)] g h0 h) (hf : pX13_readRest_b139 g this p1 p2 h = some h9) : FrC P [(12, 12), (12, 13), (12, 14), (12, 15), (12, 16), (12, 17), (12, 2018), (20, 1000)] g h0 h9 := by
  unfold pX13_readRest_b139 at hf
  obtain ⟨r1, e1⟩ : ∃ z, z = (hR h this 19) := ⟨_, rfl⟩; replace hf := lt_i hf r1 e1
  replace hf := bd2_i hf; obtain ⟨x4, h2, q2, hf⟩ := hf
  have F3 := FrC.trans F0 (pX13_readRow_fr F0.1 P_this q2) (by decide)
  replace hf := nn_i hf; obtain ⟨a1, e4, hf⟩ := hf
  replace hf := tg_i hf; obtain ⟨t5, hf⟩ := hf
  replace hf := (ix_i hf).2
  obtain ⟨h7, e6⟩ : ∃ z, z = (sI h2 a1 (Int32.toNatClampNeg (p1 + 1)) x4) := ⟨_, rfl⟩; replace hf := lt_i hf h7 e6
  have F7 := FrC.sI F3 ((fun b hb => F0.1 _ _ b P_this (e1.symm.trans hb)) _ e4) t5 (Or.inr (by decide)) e6
  obtain ⟨r8, e8⟩ : ∃ z, z = (hR h7 this 19) := ⟨_, rfl⟩; replace hf := lt_i hf r8 e8
  replace hf := bd2_i hf; obtain ⟨x11, h9, q9, hf⟩ := hf
  have F10 := FrC.trans F7 (pX13_readRow_fr F7.1 P_this q9) (by decide)
  replace hf := nn_i hf; obtain ⟨a8, e11, hf⟩ := hf
  replace hf := tg_i hf; obtain ⟨t12, hf⟩ := hf
  replace hf := (ix_i hf).2
  obtain ⟨h14, e13⟩ : ∃ z, z = (sI h9 a8 (Int32.toNatClampNeg (p1 + 2)) x11) := ⟨_, rfl⟩; replace hf := lt_i hf h14 e13
  have F14 := FrC.sI F10 ((fun b hb => F7.1 _ _ b P_this (e8.symm.trans hb)) _ e11) t12 (Or.inr (by decide)) e13
  cases hf
  exact F14
set_option maxRecDepth 10000 in
set_option maxHeartbeats 2000000 in
theorem pX13_readRest_b199_fr {P : Nat → Prop} {g : MT} {this : Nat} {p1 : Int32} {p2 : Int32} {h : CT} {h0 : CT} {h9 : CT} (t0 : gT g this = 12) (P_this : P this) (F0 : FrC P [(12, 12), (12, 13), (12, 14), (12, 15), (12, 16), (12, 17), (12, 2018), (20, 1000)] g h0 h) (hf : pX13_readRest_b199 g this p1 p2 h = some h9) : FrC P [(12, 12), (12, 13), (12, 14), (12, 15), (12, 16), (12, 17), (12, 2018), (20, 1000)] g h0 h9 := by
  unfold pX13_readRest_b199 at hf
  obtain ⟨r1, e1⟩ : ∃ z, z = (hR h this 19) := ⟨_, rfl⟩; replace hf := lt_i hf r1 e1
  replace hf := bd2_i hf; obtain ⟨x4, h2, q2, hf⟩ := hf
  have F3 := FrC.trans F0 (pX13_readScalar_fr F0.1 P_this q2) (by decide)
  replace hf := nn_i hf; obtain ⟨a1, e4, hf⟩ := hf
  replace hf := tg_i hf; obtain ⟨t5, hf⟩ := hf
  replace hf := (ix_i hf).2
  obtain ⟨h7, e6⟩ : ∃ z, z = (sI h2 a1 (Int32.toNatClampNeg (p1 + 5)) x4) := ⟨_, rfl⟩; replace hf := lt_i hf h7 e6
  have F7 := FrC.sI F3 ((fun b hb => F0.1 _ _ b P_this (e1.symm.trans hb)) _ e4) t5 (Or.inr (by decide)) e6
  obtain ⟨r8, e8⟩ : ∃ z, z = (hR h7 this 19) := ⟨_, rfl⟩; replace hf := lt_i hf r8 e8
  replace hf := bd2_i hf; obtain ⟨x11, h9, q9, hf⟩ := hf
  have F10 := FrC.trans F7 (pX13_readRow_fr F7.1 P_this q9) (by decide)
  replace hf := nn_i hf; obtain ⟨a8, e11, hf⟩ := hf
  replace hf := tg_i hf; obtain ⟨t12, hf⟩ := hf
  replace hf := (ix_i hf).2
  obtain ⟨h14, e13⟩ : ∃ z, z = (sI h9 a8 (Int32.toNatClampNeg (p1 + 1)) x11) := ⟨_, rfl⟩; replace hf := lt_i hf h14 e13
  have F14 := FrC.sI F10 ((fun b hb => F7.1 _ _ b P_this (e8.symm.trans hb)) _ e11) t12 (Or.inr (by decide)) e13
  cases hf
  exact F14
set_option maxRecDepth 10000 in
set_option maxHeartbeats 2000000 in
theorem pX13_readRest_b121_fr {P : Nat → Prop} {g : MT} {this : Nat} {p1 : Int32} {p2 : Int32} {h : CT} {h0 : CT} {h9 : CT} (t0 : gT g this = 12) (P_this : P this) (F0 : FrC P [(12, 12), (12, 13), (12, 14), (12, 15), (12, 16), (12, 17), (12, 2018), (20, 1000)] g h0 h) (hf : pX13_readRest_b121 g this p1 p2 h = some h9) : FrC P [(12, 12), (12, 13), (12, 14), (12, 15), (12, 16), (12, 17), (12, 2018), (20, 1000)] g h0 h9 := by
  unfold pX13_readRest_b121 at hf
  by_cases c1 : p2 = 17
  · rw [if_pos c1] at hf
    exact pX13_readRest_b139_fr t0 P_this F0 hf
  · rw [if_neg c1] at hf
    by_cases c2 : p2 = 18
    · rw [if_pos c2] at hf
      exact pX13_readRest_b139_fr t0 P_this F0 hf
    · rw [if_neg c2] at hf
      by_cases c3 : p2 = 21
      · rw [if_pos c3] at hf
        exact pX13_readRest_b139_fr t0 P_this F0 hf
      · rw [if_neg c3] at hf
        by_cases c4 : p2 = 22
        · rw [if_pos c4] at hf
          obtain ⟨r15, e5⟩ : ∃ z, z = (hR h this 19) := ⟨_, rfl⟩; replace hf := lt_i hf r15 e5
          replace hf := bd2_i hf; obtain ⟨x18, h16, q6, hf⟩ := hf
          have F7 := FrC.trans F0 (pX13_readScalar_fr F0.1 P_this q6) (by decide)
          replace hf := nn_i hf; obtain ⟨a15, e8, hf⟩ := hf
          replace hf := tg_i hf; obtain ⟨t9, hf⟩ := hf
          replace hf := (ix_i hf).2
          obtain ⟨h21, e10⟩ : ∃ z, z = (sI h16 a15 (Int32.toNatClampNeg (p1 + 5)) x18) := ⟨_, rfl⟩; replace hf := lt_i hf h21 e10
          have F11 := FrC.sI F7 ((fun b hb => F0.1 _ _ b P_this (e5.symm.trans hb)) _ e8) t9 (Or.inr (by decide)) e10
          cases hf
          exact F11
        · rw [if_neg c4] at hf
          by_cases c12 : p2 = 23
          · rw [if_pos c12] at hf
            exact pX13_readRest_b199_fr t0 P_this F0 hf
          · rw [if_neg c12] at hf
            by_cases c13 : p2 = 24
            · rw [if_pos c13] at hf
              exact pX13_readRest_b199_fr t0 P_this F0 hf
            · rw [if_neg c13] at hf
              by_cases c14 : p2 = 25
              · rw [if_pos c14] at hf
                obtain ⟨r8, e15⟩ : ∃ z, z = (hR h this 19) := ⟨_, rfl⟩; replace hf := lt_i hf r8 e15
                replace hf := bd2_i hf; obtain ⟨x11, h9, q16, hf⟩ := hf
                have F17 := FrC.trans F0 (pX13_countOf_fr F0.1 P_this q16) (by decide)
                replace hf := nn_i hf; obtain ⟨a8, e18, hf⟩ := hf
                replace hf := tg_i hf; obtain ⟨t19, hf⟩ := hf
                replace hf := (ix_i hf).2
                obtain ⟨h14, e20⟩ : ∃ z, z = (sI h9 a8 (Int32.toNatClampNeg (p1 + 4)) x11) := ⟨_, rfl⟩; replace hf := lt_i hf h14 e20
                have F21 := FrC.sI F17 ((fun b hb => F0.1 _ _ b P_this (e15.symm.trans hb)) _ e18) t19 (Or.inr (by decide)) e20
                cases hf
                exact F21
              · rw [if_neg c14] at hf
                cases hf
                exact F0
set_option maxRecDepth 10000 in
set_option maxHeartbeats 2000000 in
theorem pX13_readRest_b100_fr {P : Nat → Prop} {g : MT} {this : Nat} {p1 : Int32} {p2 : Int32} {h : CT} {h0 : CT} {h9 : CT} (t0 : gT g this = 12) (P_this : P this) (F0 : FrC P [(12, 12), (12, 13), (12, 14), (12, 15), (12, 16), (12, 17), (12, 2018), (20, 1000)] g h0 h) (hf : pX13_readRest_b100 g this p1 p2 h = some h9) : FrC P [(12, 12), (12, 13), (12, 14), (12, 15), (12, 16), (12, 17), (12, 2018), (20, 1000)] g h0 h9 := by
  unfold pX13_readRest_b100 at hf
  by_cases c1 : p2 < 7
  · rw [if_pos c1] at hf
    exact pX13_readRest_b121_fr t0 P_this F0 hf
  · rw [if_neg c1] at hf
    by_cases c2 : 16 < p2
    · rw [if_pos c2] at hf
      exact pX13_readRest_b121_fr t0 P_this F0 hf
    · rw [if_neg c2] at hf
      replace hf := bd_i hf; obtain ⟨h3, q3, hf⟩ := hf
      have F4 := FrC.trans F0 (pX13_readReckoned_fr F0.1 P_this q3) (by decide)
      cases hf
      exact F4
set_option maxRecDepth 10000 in
set_option maxHeartbeats 2000000 in
theorem pX13_readRest_fr {P : Nat → Prop} {g : MT} {h : CT} {this : Nat} {p1 : Int32} {p2 : Int32} {h9 : CT} (hc : Cl P h) (P_this : P this) (hf : pX13_readRest g h this p1 p2 = some h9) : FrC P [(12, 12), (12, 13), (12, 14), (12, 15), (12, 16), (12, 17), (12, 2018), (20, 1000)] g h h9 := by
  have F0 : FrC P [(12, 12), (12, 13), (12, 14), (12, 15), (12, 16), (12, 17), (12, 2018), (20, 1000)] g h h := FrC.rf hc
  unfold pX13_readRest at hf
  replace hf := tg_i hf; obtain ⟨t1, hf⟩ := hf
  by_cases c2 : p2 = 0
  · rw [if_pos c2] at hf
    obtain ⟨r23, e3⟩ : ∃ z, z = (hR h this 19) := ⟨_, rfl⟩; replace hf := lt_i hf r23 e3
    replace hf := bd2_i hf; obtain ⟨x26, h24, q4, hf⟩ := hf
    have F5 := FrC.trans F0 (pX13_countOf_fr F0.1 P_this q4) (by decide)
    replace hf := nn_i hf; obtain ⟨a23, e6, hf⟩ := hf
    replace hf := tg_i hf; obtain ⟨t7, hf⟩ := hf
    replace hf := (ix_i hf).2
    obtain ⟨h29, e8⟩ : ∃ z, z = (sI h24 a23 (Int32.toNatClampNeg (p1 + 4)) x26) := ⟨_, rfl⟩; replace hf := lt_i hf h29 e8
    have F9 := FrC.sI F5 ((fun b hb => F0.1 _ _ b P_this (e3.symm.trans hb)) _ e6) t7 (Or.inr (by decide)) e8
    cases hf
    exact F9
  · rw [if_neg c2] at hf
    by_cases c10 : p2 = 1
    · rw [if_pos c10] at hf
      exact pX13_readRest_b33_fr t1 P_this F0 hf
    · rw [if_neg c10] at hf
      by_cases c11 : p2 = 19
      · rw [if_pos c11] at hf
        exact pX13_readRest_b33_fr t1 P_this F0 hf
      · rw [if_neg c11] at hf
        by_cases c12 : p2 = 2
        · rw [if_pos c12] at hf
          obtain ⟨r9, e13⟩ : ∃ z, z = (hR h this 19) := ⟨_, rfl⟩; replace hf := lt_i hf r9 e13
          replace hf := bd2_i hf; obtain ⟨x12, h10, q14, hf⟩ := hf
          have F15 := FrC.trans F0 (pX13_readRow_fr F0.1 P_this q14) (by decide)
          replace hf := nn_i hf; obtain ⟨a9, e16, hf⟩ := hf
          replace hf := tg_i hf; obtain ⟨t17, hf⟩ := hf
          replace hf := (ix_i hf).2
          obtain ⟨h15, e18⟩ : ∃ z, z = (sI h10 a9 (Int32.toNatClampNeg (p1 + 1)) x12) := ⟨_, rfl⟩; replace hf := lt_i hf h15 e18
          have F19 := FrC.sI F15 ((fun b hb => F0.1 _ _ b P_this (e13.symm.trans hb)) _ e16) t17 (Or.inr (by decide)) e18
          obtain ⟨r16, e20⟩ : ∃ z, z = (hR h15 this 19) := ⟨_, rfl⟩; replace hf := lt_i hf r16 e20
          replace hf := bd2_i hf; obtain ⟨x19, h17, q21, hf⟩ := hf
          have F22 := FrC.trans F19 (pX13_readScalar_fr F19.1 P_this q21) (by decide)
          replace hf := nn_i hf; obtain ⟨a16, e23, hf⟩ := hf
          replace hf := tg_i hf; obtain ⟨t24, hf⟩ := hf
          replace hf := (ix_i hf).2
          obtain ⟨h22, e25⟩ : ∃ z, z = (sI h17 a16 (Int32.toNatClampNeg (p1 + 5)) x19) := ⟨_, rfl⟩; replace hf := lt_i hf h22 e25
          have F26 := FrC.sI F22 ((fun b hb => F19.1 _ _ b P_this (e20.symm.trans hb)) _ e23) t24 (Or.inr (by decide)) e25
          cases hf
          exact F26
        · rw [if_neg c12] at hf
          by_cases c27 : p2 < 3
          · rw [if_pos c27] at hf
            exact pX13_readRest_b100_fr t1 P_this F0 hf
          · rw [if_neg c27] at hf
            by_cases c28 : 6 < p2
            · rw [if_pos c28] at hf
              exact pX13_readRest_b100_fr t1 P_this F0 hf
            · rw [if_neg c28] at hf
              replace hf := bd_i hf; obtain ⟨h7, q29, hf⟩ := hf
              have F30 := FrC.trans F0 (pX13_readMemory_fr F0.1 P_this q29) (by decide)
              cases hf
              exact F30
set_option maxRecDepth 10000 in
set_option maxHeartbeats 2000000 in
theorem pX13_many_fr {P : Nat → Prop} {g : MT} {h : CT} {this : Nat} {p1 : Int32} {r9 : Int32} {h9 : CT} (hc : Cl P h) (P_this : P this) (hf : pX13_many g h this p1 = some (r9, h9)) : FrC P [(12, 0), (12, 1)] g h h9 := by
  have F0 : FrC P [(12, 0), (12, 1)] g h h := FrC.rf hc
  unfold pX13_many at hf
  replace hf := tg_i hf; obtain ⟨t1, hf⟩ := hf
  obtain ⟨h1, e2⟩ : ∃ z, z = (sI h this 1 0) := ⟨_, rfl⟩; replace hf := lt_i hf h1 e2
  have F3 := FrC.sI F0 P_this t1 (Or.inl (by decide)) e2
  obtain ⟨h2, e4⟩ : ∃ z, z = (sI h1 this 0 0) := ⟨_, rfl⟩; replace hf := lt_i hf h2 e4
  have F5 := FrC.sI F3 P_this t1 (Or.inl (by decide)) e4
  by_cases c6 : (pX13_isIn (Int32.toInt64 p1) 0 5) = 0
  · rw [if_pos c6] at hf
    replace hf := bd2_i hf; obtain ⟨x17, h15, q7, hf⟩ := hf
    have F8 := FrC.trans F5 (pX13_refuse_fr F5.1 P_this q7) (by decide)
    cases hf
    exact F8
  · rw [if_neg c6] at hf
    by_cases c9 : 4 ≤ p1
    · rw [if_pos c9] at hf
      by_cases c10 : p1 = 4
      · rw [if_pos c10] at hf
        obtain ⟨r9, e11⟩ : ∃ z, z = (hR h2 this 19) := ⟨_, rfl⟩; replace hf := lt_i hf r9 e11
        replace hf := nn_i hf; obtain ⟨a9, e12, hf⟩ := hf
        replace hf := tg_i hf; obtain ⟨t13, hf⟩ := hf
        replace hf := (ix_i hf).2
        cases hf
        exact F5
      · rw [if_neg c10] at hf
        obtain ⟨r6, e14⟩ : ∃ z, z = (hR h2 this 19) := ⟨_, rfl⟩; replace hf := lt_i hf r6 e14
        replace hf := nn_i hf; obtain ⟨a6, e15, hf⟩ := hf
        replace hf := tg_i hf; obtain ⟨t16, hf⟩ := hf
        replace hf := (ix_i hf).2
        cases hf
        exact F5
    · rw [if_neg c9] at hf
      obtain ⟨r12, e17⟩ : ∃ z, z = (hR h2 this 19) := ⟨_, rfl⟩; replace hf := lt_i hf r12 e17
      replace hf := nn_i hf; obtain ⟨a12, e18, hf⟩ := hf
      replace hf := tg_i hf; obtain ⟨t19, hf⟩ := hf
      replace hf := (ix_i hf).2
      cases hf
      exact F5
set_option maxRecDepth 10000 in
set_option maxHeartbeats 2000000 in
theorem pX13_element_b24_fr {P : Nat → Prop} {g : MT} {this : Nat} {p1 : Int32} {p2 : Int32} {h : CT} {h0 : CT} {r9 : Int32} {h9 : CT} (t0 : gT g this = 12) (P_this : P this) (F0 : FrC P [(12, 0), (12, 1), (12, 3), (12, 2002)] g h0 h) (hf : pX13_element_b24 g this p1 p2 h = some (r9, h9)) : FrC P [(12, 0), (12, 1), (12, 3), (12, 2002)] g h0 h9 := by
  unfold pX13_element_b24 at hf
  replace hf := bd2_i hf; obtain ⟨x3, h1, q1, hf⟩ := hf
  have F2 := FrC.trans F0 (pX13_refuse_fr F0.1 P_this q1) (by decide)
  cases hf
  exact F2
set_option maxRecDepth 10000 in
set_option maxHeartbeats 2000000 in
theorem pX13_element_fr {P : Nat → Prop} {g : MT} {h : CT} {this : Nat} {p1 : Int32} {p2 : Int32} {r9 : Int32} {h9 : CT} (hc : Cl P h) (P_this : P this) (hf : pX13_element g h this p1 p2 = some (r9, h9)) : FrC P [(12, 0), (12, 1), (12, 3), (12, 2002)] g h h9 := by
  have F0 : FrC P [(12, 0), (12, 1), (12, 3), (12, 2002)] g h h := FrC.rf hc
  unfold pX13_element at hf
  replace hf := tg_i hf; obtain ⟨t1, hf⟩ := hf
  obtain ⟨h1, e2⟩ : ∃ z, z = (sI h this 1 0) := ⟨_, rfl⟩; replace hf := lt_i hf h1 e2
  have F3 := FrC.sI F0 P_this t1 (Or.inl (by decide)) e2
  obtain ⟨h2, e4⟩ : ∃ z, z = (sI h1 this 0 0) := ⟨_, rfl⟩; replace hf := lt_i hf h2 e4
  have F5 := FrC.sI F3 P_this t1 (Or.inl (by decide)) e4
  by_cases c6 : (pX13_isRow p1) = 0
  · rw [if_pos c6] at hf
    exact pX13_element_b24_fr t1 P_this F5 hf
  · rw [if_neg c6] at hf
    by_cases c7 : (pX13_isElement p2) = 0
    · rw [if_pos c7] at hf
      exact pX13_element_b24_fr t1 P_this F5 hf
    · rw [if_neg c7] at hf
      obtain ⟨r5, e8⟩ : ∃ z, z = (hR h2 this 19) := ⟨_, rfl⟩; replace hf := lt_i hf r5 e8
      replace hf := nn_i hf; obtain ⟨a5, e9, hf⟩ := hf
      replace hf := tg_i hf; obtain ⟨t10, hf⟩ := hf
      replace hf := (ix_i hf).2
      by_cases c11 : (pX13_has (hI h2 a5 (Int32.toNatClampNeg 4)) p1) = 0
      · rw [if_pos c11] at hf
        replace hf := bd2_i hf; obtain ⟨x11, h9, q12, hf⟩ := hf
        have F13 := FrC.trans F5 (pX13_refuse_fr F5.1 P_this q12) (by decide)
        cases hf
        exact F13
      · rw [if_neg c11] at hf
        obtain ⟨r12, e14⟩ : ∃ z, z = (hR h2 this 20) := ⟨_, rfl⟩; replace hf := lt_i hf r12 e14
        replace hf := nn_i hf; obtain ⟨a12, e15, hf⟩ := hf
        replace hf := tg_i hf; obtain ⟨t16, hf⟩ := hf
        replace hf := (ix_i hf).2
        replace hf := bd2_i hf; obtain ⟨x17, h15, q17, hf⟩ := hf
        have F18 := FrC.trans F5 (pX13_tells_fr F5.1 P_this q17) (by decide)
        cases hf
        exact F18
set_option maxRecDepth 10000 in
set_option maxHeartbeats 2000000 in
theorem pX13_scalar_fr {P : Nat → Prop} {g : MT} {h : CT} {this : Nat} {p1 : Int32} {r9 : Int32} {h9 : CT} (hc : Cl P h) (P_this : P this) (hf : pX13_scalar g h this p1 = some (r9, h9)) : FrC P [(12, 0), (12, 1), (12, 3), (12, 2002)] g h h9 := by
  have F0 : FrC P [(12, 0), (12, 1), (12, 3), (12, 2002)] g h h := FrC.rf hc
  unfold pX13_scalar at hf
  replace hf := tg_i hf; obtain ⟨t1, hf⟩ := hf
  obtain ⟨h1, e2⟩ : ∃ z, z = (sI h this 1 0) := ⟨_, rfl⟩; replace hf := lt_i hf h1 e2
  have F3 := FrC.sI F0 P_this t1 (Or.inl (by decide)) e2
  obtain ⟨h2, e4⟩ : ∃ z, z = (sI h1 this 0 0) := ⟨_, rfl⟩; replace hf := lt_i hf h2 e4
  have F5 := FrC.sI F3 P_this t1 (Or.inl (by decide)) e4
  by_cases c6 : (pX13_isScalar p1) = 0
  · rw [if_pos c6] at hf
    replace hf := bd2_i hf; obtain ⟨x6, h4, q7, hf⟩ := hf
    have F8 := FrC.trans F5 (pX13_refuse_fr F5.1 P_this q7) (by decide)
    cases hf
    exact F8
  · rw [if_neg c6] at hf
    obtain ⟨r7, e9⟩ : ∃ z, z = (hR h2 this 20) := ⟨_, rfl⟩; replace hf := lt_i hf r7 e9
    replace hf := nn_i hf; obtain ⟨a7, e10, hf⟩ := hf
    replace hf := tg_i hf; obtain ⟨t11, hf⟩ := hf
    replace hf := (ix_i hf).2
    replace hf := bd2_i hf; obtain ⟨x12, h10, q12, hf⟩ := hf
    have F13 := FrC.trans F5 (pX13_tells_fr F5.1 P_this q12) (by decide)
    cases hf
    exact F13
set_option maxRecDepth 10000 in
set_option maxHeartbeats 2000000 in
theorem pX13_word_fr {P : Nat → Prop} {g : MT} {h : CT} {this : Nat} {p1 : Int32} {r9 : Int32} {h9 : CT} (hc : Cl P h) (P_this : P this) (hf : pX13_word g h this p1 = some (r9, h9)) : FrC P [(12, 0), (12, 1), (12, 3), (12, 2002)] g h h9 := by
  have F0 : FrC P [(12, 0), (12, 1), (12, 3), (12, 2002)] g h h := FrC.rf hc
  unfold pX13_word at hf
  replace hf := tg_i hf; obtain ⟨t1, hf⟩ := hf
  obtain ⟨h1, e2⟩ : ∃ z, z = (sI h this 1 0) := ⟨_, rfl⟩; replace hf := lt_i hf h1 e2
  have F3 := FrC.sI F0 P_this t1 (Or.inl (by decide)) e2
  obtain ⟨h2, e4⟩ : ∃ z, z = (sI h1 this 0 0) := ⟨_, rfl⟩; replace hf := lt_i hf h2 e4
  have F5 := FrC.sI F3 P_this t1 (Or.inl (by decide)) e4
  by_cases c6 : (pX13_isWordAt p1) = 0
  · rw [if_pos c6] at hf
    replace hf := bd2_i hf; obtain ⟨x6, h4, q7, hf⟩ := hf
    have F8 := FrC.trans F5 (pX13_refuse_fr F5.1 P_this q7) (by decide)
    cases hf
    exact F8
  · rw [if_neg c6] at hf
    obtain ⟨r7, e9⟩ : ∃ z, z = (hR h2 this 20) := ⟨_, rfl⟩; replace hf := lt_i hf r7 e9
    replace hf := nn_i hf; obtain ⟨a7, e10, hf⟩ := hf
    replace hf := tg_i hf; obtain ⟨t11, hf⟩ := hf
    replace hf := (ix_i hf).2
    replace hf := bd2_i hf; obtain ⟨x12, h10, q12, hf⟩ := hf
    have F13 := FrC.trans F5 (pX13_tells_fr F5.1 P_this q12) (by decide)
    cases hf
    exact F13
set_option maxRecDepth 10000 in
set_option maxHeartbeats 2000000 in
theorem pX13_becomes_fr {P : Nat → Prop} {g : MT} {h : CT} {this : Nat} {p1 : Int32} {p2 : UInt64} {r9 : Int32} {h9 : CT} (hc : Cl P h) (P_this : P this) (hf : pX13_becomes g h this p1 p2 = some (r9, h9)) : FrC P [(12, 3), (12, 2002), (22, 5000)] g h h9 := by
  have F0 : FrC P [(12, 3), (12, 2002), (22, 5000)] g h h := FrC.rf hc
  unfold pX13_becomes at hf
  replace hf := tg_i hf; obtain ⟨t1, hf⟩ := hf
  obtain ⟨r1, e2⟩ : ∃ z, z = (hR h this 20) := ⟨_, rfl⟩; replace hf := lt_i hf r1 e2
  replace hf := nn_i hf; obtain ⟨a1, e3, hf⟩ := hf
  replace hf := tg_i hf; obtain ⟨t4, hf⟩ := hf
  replace hf := (ix_i hf).2
  obtain ⟨h4, e5⟩ : ∃ z, z = (sD h a1 (Int32.toNatClampNeg p1) p2) := ⟨_, rfl⟩; replace hf := lt_i hf h4 e5
  have F6 := FrC.sD F0 ((fun b hb => F0.1 _ _ b P_this (e2.symm.trans hb)) _ e3) t4 (Or.inr (by decide)) e5
  replace hf := bd2_i hf; obtain ⟨x7, h5, q7, hf⟩ := hf
  have F8 := FrC.trans F6 (pX13_tells_fr F6.1 P_this q7) (by decide)
  cases hf
  exact F8
set_option maxRecDepth 10000 in
set_option maxHeartbeats 2000000 in
theorem pX13_there_b28_fr {P : Nat → Prop} {g : MT} {this : Nat} {p1 : Int32} {k28 : Int32 → CT → Option CT} {l2 : Int32} {h : CT} {h0 : CT} {h9 : CT} (t0 : gT g this = 12) (P_this : P this) (hk28 : ∀ (v0 : Int32) (v1 : CT), FrC P [(20, 1000), (22, 5000)] g h0 v1 → k28 v0 v1 = some h9 → FrC P [(20, 1000), (22, 5000)] g h0 h9) (F0 : FrC P [(20, 1000), (22, 5000)] g h0 h) (hf : pX13_there_b28 g this p1 k28 l2 h = some h9) : FrC P [(20, 1000), (22, 5000)] g h0 h9 := by
  unfold pX13_there_b28 at hf
  by_cases c1 : 16 ≤ l2
  · rw [if_pos c1] at hf
    cases hf
    exact F0
  · rw [if_neg c1] at hf
    obtain ⟨r2, e2⟩ : ∃ z, z = (hR h this 20) := ⟨_, rfl⟩; replace hf := lt_i hf r2 e2
    replace hf := nn_i hf; obtain ⟨a2, e3, hf⟩ := hf
    replace hf := tg_i hf; obtain ⟨t4, hf⟩ := hf
    replace hf := (ix_i hf).2
    obtain ⟨h5, e5⟩ : ∃ z, z = (sD h a2 (Int32.toNatClampNeg ((16 * p1) + l2)) 0) := ⟨_, rfl⟩; replace hf := lt_i hf h5 e5
    have F6 := FrC.sD F0 ((fun b hb => F0.1 _ _ b P_this (e2.symm.trans hb)) _ e3) t4 (Or.inr (by decide)) e5
    obtain ⟨x6, e7⟩ : ∃ z, z = (l2 + 1) := ⟨_, rfl⟩; replace hf := lt_i hf x6 e7
    exact hk28 _ _ F6 hf
set_option maxRecDepth 10000 in
set_option maxHeartbeats 2000000 in
theorem pX13_there_l28_fr {P : Nat → Prop} {g : MT} {this : Nat} {p1 : Int32} {h0 : CT} {h9 : CT} (t0 : gT g this = 12) (P_this : P this) : ∀ (n : Nat) (v1 : Int32) (v2 : CT), FrC P [(20, 1000), (22, 5000)] g h0 v2 → pX13_there_l28 g this p1 n v1 v2 = some h9 → FrC P [(20, 1000), (22, 5000)] g h0 h9 := by
  intro n
  induction n with
  | zero => intro v1 v2 F0 hf; cases hf
  | succ n ih => intro v1 v2 F0 hf; exact pX13_there_b28_fr t0 P_this ih F0 hf
set_option maxRecDepth 10000 in
set_option maxHeartbeats 2000000 in
theorem pX13_there_fr {P : Nat → Prop} {g : MT} {h : CT} {this : Nat} {p1 : Int32} {h9 : CT} (hc : Cl P h) (P_this : P this) (hf : pX13_there g h this p1 = some h9) : FrC P [(20, 1000), (22, 5000)] g h h9 := by
  have F0 : FrC P [(20, 1000), (22, 5000)] g h h := FrC.rf hc
  unfold pX13_there at hf
  replace hf := tg_i hf; obtain ⟨t1, hf⟩ := hf
  obtain ⟨r1, e2⟩ : ∃ z, z = (hR h this 19) := ⟨_, rfl⟩; replace hf := lt_i hf r1 e2
  replace hf := nn_i hf; obtain ⟨a1, e3, hf⟩ := hf
  replace hf := tg_i hf; obtain ⟨t4, hf⟩ := hf
  replace hf := (ix_i hf).2
  by_cases c5 : (pX13_has (hI h a1 (Int32.toNatClampNeg 4)) p1) = 0
  · rw [if_pos c5] at hf
    obtain ⟨r5, e6⟩ : ∃ z, z = (hR h this 19) := ⟨_, rfl⟩; replace hf := lt_i hf r5 e6
    replace hf := nn_i hf; obtain ⟨a5, e7, hf⟩ := hf
    replace hf := tg_i hf; obtain ⟨t8, hf⟩ := hf
    replace hf := (ix_i hf).2
    replace hf := (ix_i hf).2
    obtain ⟨h9, e9⟩ : ∃ z, z = (sI h a5 (Int32.toNatClampNeg 4) ((hI h a5 (Int32.toNatClampNeg 4)) ||| ((1 : Int32) <<< (p1 &&& 31)))) := ⟨_, rfl⟩; replace hf := lt_i hf h9 e9
    have F10 := FrC.sI F0 ((fun b hb => F0.1 _ _ b P_this (e6.symm.trans hb)) _ e7) t8 (Or.inr (by decide)) e9
    exact pX13_there_l28_fr t1 P_this _ _ _ F10 hf
  · rw [if_neg c5] at hf
    cases hf
    exact F0
set_option maxRecDepth 10000 in
set_option maxHeartbeats 2000000 in
theorem pX13_put_b24_fr {P : Nat → Prop} {g : MT} {this : Nat} {p1 : Int32} {p2 : Int32} {p3 : Int64} {p5 : Int32} {h : CT} {h0 : CT} {r9 : Int32} {h9 : CT} (t0 : gT g this = 12) (P_this : P this) (F0 : FrC P [(12, 0), (12, 1), (12, 3), (12, 2002), (20, 1000), (22, 5000)] g h0 h) (hf : pX13_put_b24 g this p1 p2 p3 p5 h = some (r9, h9)) : FrC P [(12, 0), (12, 1), (12, 3), (12, 2002), (20, 1000), (22, 5000)] g h0 h9 := by
  unfold pX13_put_b24 at hf
  replace hf := bd2_i hf; obtain ⟨x3, h1, q1, hf⟩ := hf
  have F2 := FrC.trans F0 (pX13_refuse_fr F0.1 P_this q1) (by decide)
  cases hf
  exact F2
set_option maxRecDepth 10000 in
set_option maxHeartbeats 2000000 in
theorem pX13_put_fr {P : Nat → Prop} {g : MT} {h : CT} {this : Nat} {p1 : Int32} {p2 : Int32} {p3 : Int64} {p5 : Int32} {r9 : Int32} {h9 : CT} (hc : Cl P h) (P_this : P this) (hf : pX13_put g h this p1 p2 p3 p5 = some (r9, h9)) : FrC P [(12, 0), (12, 1), (12, 3), (12, 2002), (20, 1000), (22, 5000)] g h h9 := by
  have F0 : FrC P [(12, 0), (12, 1), (12, 3), (12, 2002), (20, 1000), (22, 5000)] g h h := FrC.rf hc
  unfold pX13_put at hf
  replace hf := tg_i hf; obtain ⟨t1, hf⟩ := hf
  obtain ⟨h1, e2⟩ : ∃ z, z = (sI h this 1 0) := ⟨_, rfl⟩; replace hf := lt_i hf h1 e2
  have F3 := FrC.sI F0 P_this t1 (Or.inl (by decide)) e2
  obtain ⟨h2, e4⟩ : ∃ z, z = (sI h1 this 0 0) := ⟨_, rfl⟩; replace hf := lt_i hf h2 e4
  have F5 := FrC.sI F3 P_this t1 (Or.inl (by decide)) e4
  by_cases c6 : (pX13_isRow p1) = 0
  · rw [if_pos c6] at hf
    exact pX13_put_b24_fr t1 P_this F5 hf
  · rw [if_neg c6] at hf
    by_cases c7 : (pX13_isElement p2) = 0
    · rw [if_pos c7] at hf
      exact pX13_put_b24_fr t1 P_this F5 hf
    · rw [if_neg c7] at hf
      by_cases c8 : (pX13_isNumber p3 p5) = 0
      · rw [if_pos c8] at hf
        replace hf := bd2_i hf; obtain ⟨x15, h13, q9, hf⟩ := hf
        have F10 := FrC.trans F5 (pX13_refuse_fr F5.1 P_this q9) (by decide)
        cases hf
        exact F10
      · rw [if_neg c8] at hf
        replace hf := bd_i hf; obtain ⟨h6, q11, hf⟩ := hf
        have F12 := FrC.trans F5 (pX13_there_fr F5.1 P_this q11) (by decide)
        replace hf := bd_i hf; obtain ⟨x8, q13, hf⟩ := hf
        replace hf := bd2_i hf; obtain ⟨x12, h10, q14, hf⟩ := hf
        have F15 := FrC.trans F12 (pX13_becomes_fr F12.1 P_this q14) (by decide)
        cases hf
        exact F15
set_option maxRecDepth 10000 in
set_option maxHeartbeats 2000000 in
theorem pX13_give_fr {P : Nat → Prop} {g : MT} {h : CT} {this : Nat} {p1 : Int32} {p2 : Int64} {p4 : Int32} {r9 : Int32} {h9 : CT} (hc : Cl P h) (P_this : P this) (hf : pX13_give g h this p1 p2 p4 = some (r9, h9)) : FrC P [(12, 0), (12, 1), (12, 3), (12, 2002), (22, 5000)] g h h9 := by
  have F0 : FrC P [(12, 0), (12, 1), (12, 3), (12, 2002), (22, 5000)] g h h := FrC.rf hc
  unfold pX13_give at hf
  replace hf := tg_i hf; obtain ⟨t1, hf⟩ := hf
  obtain ⟨h1, e2⟩ : ∃ z, z = (sI h this 1 0) := ⟨_, rfl⟩; replace hf := lt_i hf h1 e2
  have F3 := FrC.sI F0 P_this t1 (Or.inl (by decide)) e2
  obtain ⟨h2, e4⟩ : ∃ z, z = (sI h1 this 0 0) := ⟨_, rfl⟩; replace hf := lt_i hf h2 e4
  have F5 := FrC.sI F3 P_this t1 (Or.inl (by decide)) e4
  by_cases c6 : (pX13_isScalar p1) = 0
  · rw [if_pos c6] at hf
    replace hf := bd2_i hf; obtain ⟨x15, h13, q7, hf⟩ := hf
    have F8 := FrC.trans F5 (pX13_refuse_fr F5.1 P_this q7) (by decide)
    cases hf
    exact F8
  · rw [if_neg c6] at hf
    by_cases c9 : (pX13_isNumber p2 p4) = 0
    · rw [if_pos c9] at hf
      replace hf := bd2_i hf; obtain ⟨x7, h5, q10, hf⟩ := hf
      have F11 := FrC.trans F5 (pX13_refuse_fr F5.1 P_this q10) (by decide)
      cases hf
      exact F11
    · rw [if_neg c9] at hf
      replace hf := bd_i hf; obtain ⟨x8, q12, hf⟩ := hf
      replace hf := bd2_i hf; obtain ⟨x12, h10, q13, hf⟩ := hf
      have F14 := FrC.trans F5 (pX13_becomes_fr F5.1 P_this q13) (by decide)
      cases hf
      exact F14
set_option maxRecDepth 10000 in
set_option maxHeartbeats 2000000 in
theorem pX13_poke_fr {P : Nat → Prop} {g : MT} {h : CT} {this : Nat} {p1 : Int32} {p2 : Int64} {p4 : Int32} {r9 : Int32} {h9 : CT} (hc : Cl P h) (P_this : P this) (hf : pX13_poke g h this p1 p2 p4 = some (r9, h9)) : FrC P [(12, 0), (12, 1), (12, 3), (12, 2002), (22, 5000)] g h h9 := by
  have F0 : FrC P [(12, 0), (12, 1), (12, 3), (12, 2002), (22, 5000)] g h h := FrC.rf hc
  unfold pX13_poke at hf
  replace hf := tg_i hf; obtain ⟨t1, hf⟩ := hf
  obtain ⟨h1, e2⟩ : ∃ z, z = (sI h this 1 0) := ⟨_, rfl⟩; replace hf := lt_i hf h1 e2
  have F3 := FrC.sI F0 P_this t1 (Or.inl (by decide)) e2
  obtain ⟨h2, e4⟩ : ∃ z, z = (sI h1 this 0 0) := ⟨_, rfl⟩; replace hf := lt_i hf h2 e4
  have F5 := FrC.sI F3 P_this t1 (Or.inl (by decide)) e4
  by_cases c6 : (pX13_isWordAt p1) = 0
  · rw [if_pos c6] at hf
    replace hf := bd2_i hf; obtain ⟨x15, h13, q7, hf⟩ := hf
    have F8 := FrC.trans F5 (pX13_refuse_fr F5.1 P_this q7) (by decide)
    cases hf
    exact F8
  · rw [if_neg c6] at hf
    by_cases c9 : (pX13_isNumber p2 p4) = 0
    · rw [if_pos c9] at hf
      replace hf := bd2_i hf; obtain ⟨x7, h5, q10, hf⟩ := hf
      have F11 := FrC.trans F5 (pX13_refuse_fr F5.1 P_this q10) (by decide)
      cases hf
      exact F11
    · rw [if_neg c9] at hf
      replace hf := bd_i hf; obtain ⟨x8, q12, hf⟩ := hf
      replace hf := bd2_i hf; obtain ⟨x12, h10, q13, hf⟩ := hf
      have F14 := FrC.trans F5 (pX13_becomes_fr F5.1 P_this q13) (by decide)
      cases hf
      exact F14
set_option maxRecDepth 10000 in
set_option maxHeartbeats 2000000 in
theorem pX13_strange_fr {P : Nat → Prop} {g : MT} {h : CT} {this : Nat} {p1 : Int32} {p2 : Int32} {r9 : Int32} {h9 : CT} (hc : Cl P h) (P_this : P this) (hf : pX13_strange g h this p1 p2 = some (r9, h9)) : FrC P [(12, 0), (12, 1), (22, 5000)] g h h9 := by
  have F0 : FrC P [(12, 0), (12, 1), (22, 5000)] g h h := FrC.rf hc
  unfold pX13_strange at hf
  replace hf := tg_i hf; obtain ⟨t1, hf⟩ := hf
  obtain ⟨h1, e2⟩ : ∃ z, z = (sI h this 1 0) := ⟨_, rfl⟩; replace hf := lt_i hf h1 e2
  have F3 := FrC.sI F0 P_this t1 (Or.inl (by decide)) e2
  obtain ⟨h2, e4⟩ : ∃ z, z = (sI h1 this 0 0) := ⟨_, rfl⟩; replace hf := lt_i hf h2 e4
  have F5 := FrC.sI F3 P_this t1 (Or.inl (by decide)) e4
  by_cases c6 : (pX13_isWordAt p1) = 0
  · rw [if_pos c6] at hf
    replace hf := bd2_i hf; obtain ⟨x18, h16, q7, hf⟩ := hf
    have F8 := FrC.trans F5 (pX13_refuse_fr F5.1 P_this q7) (by decide)
    cases hf
    exact F8
  · rw [if_neg c6] at hf
    by_cases c9 : (pX13_isIn (Int32.toInt64 p2) 1 5) = 0
    · rw [if_pos c9] at hf
      replace hf := bd2_i hf; obtain ⟨x15, h13, q10, hf⟩ := hf
      have F11 := FrC.trans F5 (pX13_refuse_fr F5.1 P_this q10) (by decide)
      cases hf
      exact F11
    · rw [if_neg c9] at hf
      obtain ⟨r5, e12⟩ : ∃ z, z = (hR h2 this 20) := ⟨_, rfl⟩; replace hf := lt_i hf r5 e12
      replace hf := nn_i hf; obtain ⟨a5, e13, hf⟩ := hf
      replace hf := tg_i hf; obtain ⟨t14, hf⟩ := hf
      replace hf := (ix_i hf).2
      obtain ⟨x8, e15⟩ : ∃ z, z = (pX13_kindOf (hD h2 a5 (Int32.toNatClampNeg (100 + p1)))) := ⟨_, rfl⟩; replace hf := lt_i hf x8 e15
      obtain ⟨r9, e16⟩ : ∃ z, z = (hR h2 this 20) := ⟨_, rfl⟩; replace hf := lt_i hf r9 e16
      replace hf := nn_i hf; obtain ⟨a9, e17, hf⟩ := hf
      replace hf := tg_i hf; obtain ⟨t18, hf⟩ := hf
      replace hf := (ix_i hf).2
      obtain ⟨h12, e19⟩ : ∃ z, z = (sD h2 a9 (Int32.toNatClampNeg (100 + p1)) (pX13_strangeOf p2)) := ⟨_, rfl⟩; replace hf := lt_i hf h12 e19
      have F20 := FrC.sD F5 ((fun b hb => F5.1 _ _ b P_this (e16.symm.trans hb)) _ e17) t18 (Or.inr (by decide)) e19
      cases hf
      exact F20
set_option maxRecDepth 10000 in
set_option maxHeartbeats 2000000 in
theorem pX13_pokeAll_b28_fr {P : Nat → Prop} {g : MT} {this : Nat} {p1 : Int32} {p2 : Int32} {p3 : Int32} {k28 : Int32 → CT → Option ((Int32) × CT)} {l4 : Int32} {h : CT} {h0 : CT} {r9 : Int32} {h9 : CT} (t0 : gT g this = 12) (P_this : P this) (hk28 : ∀ (v0 : Int32) (v1 : CT), FrC P [(12, 0), (12, 1), (22, 5000)] g h0 v1 → k28 v0 v1 = some (r9, h9) → FrC P [(12, 0), (12, 1), (22, 5000)] g h0 h9) (F0 : FrC P [(12, 0), (12, 1), (22, 5000)] g h0 h) (hf : pX13_pokeAll_b28 g this p1 p2 p3 k28 l4 h = some (r9, h9)) : FrC P [(12, 0), (12, 1), (22, 5000)] g h0 h9 := by
  unfold pX13_pokeAll_b28 at hf
  by_cases c1 : p3 ≤ l4
  · rw [if_pos c1] at hf
    cases hf
    exact F0
  · rw [if_neg c1] at hf
    obtain ⟨r2, e2⟩ : ∃ z, z = (hR h this 20) := ⟨_, rfl⟩; replace hf := lt_i hf r2 e2
    replace hf := bd_i hf; obtain ⟨x3, q3, hf⟩ := hf
    replace hf := nn_i hf; obtain ⟨a2, e4, hf⟩ := hf
    replace hf := tg_i hf; obtain ⟨t5, hf⟩ := hf
    replace hf := (ix_i hf).2
    obtain ⟨h7, e6⟩ : ∃ z, z = (sD h a2 (Int32.toNatClampNeg ((100 + p1) + l4)) (fl2d x3)) := ⟨_, rfl⟩; replace hf := lt_i hf h7 e6
    have F7 := FrC.sD F0 ((fun b hb => F0.1 _ _ b P_this (e2.symm.trans hb)) _ e4) t5 (Or.inr (by decide)) e6
    obtain ⟨x8, e8⟩ : ∃ z, z = (l4 + 1) := ⟨_, rfl⟩; replace hf := lt_i hf x8 e8
    exact hk28 _ _ F7 hf
set_option maxRecDepth 10000 in
set_option maxHeartbeats 2000000 in
theorem pX13_pokeAll_l28_fr {P : Nat → Prop} {g : MT} {this : Nat} {p1 : Int32} {p2 : Int32} {p3 : Int32} {h0 : CT} {r9 : Int32} {h9 : CT} (t0 : gT g this = 12) (P_this : P this) : ∀ (n : Nat) (v1 : Int32) (v2 : CT), FrC P [(12, 0), (12, 1), (22, 5000)] g h0 v2 → pX13_pokeAll_l28 g this p1 p2 p3 n v1 v2 = some (r9, h9) → FrC P [(12, 0), (12, 1), (22, 5000)] g h0 h9 := by
  intro n
  induction n with
  | zero => intro v1 v2 F0 hf; cases hf
  | succ n ih => intro v1 v2 F0 hf; exact pX13_pokeAll_b28_fr t0 P_this ih F0 hf
set_option maxRecDepth 10000 in
set_option maxHeartbeats 2000000 in
theorem pX13_pokeAll_fr {P : Nat → Prop} {g : MT} {h : CT} {this : Nat} {p1 : Int32} {p2 : Int32} {p3 : Int32} {r9 : Int32} {h9 : CT} (hc : Cl P h) (P_this : P this) (hf : pX13_pokeAll g h this p1 p2 p3 = some (r9, h9)) : FrC P [(12, 0), (12, 1), (22, 5000)] g h h9 := by
  have F0 : FrC P [(12, 0), (12, 1), (22, 5000)] g h h := FrC.rf hc
  unfold pX13_pokeAll at hf
  replace hf := tg_i hf; obtain ⟨t1, hf⟩ := hf
  obtain ⟨h1, e2⟩ : ∃ z, z = (sI h this 1 0) := ⟨_, rfl⟩; replace hf := lt_i hf h1 e2
  have F3 := FrC.sI F0 P_this t1 (Or.inl (by decide)) e2
  replace hf := bd_i hf; obtain ⟨x2, q4, hf⟩ := hf
  obtain ⟨h4, e5⟩ : ∃ z, z = (sI h1 this 0 x2) := ⟨_, rfl⟩; replace hf := lt_i hf h4 e5
  have F6 := FrC.sI F3 P_this t1 (Or.inl (by decide)) e5
  by_cases c7 : (hI h4 this 0) ≤ 0
  · rw [if_pos c7] at hf
    exact pX13_pokeAll_l28_fr t1 P_this _ _ _ F6 hf
  · rw [if_neg c7] at hf
    cases hf
    exact F6
set_option maxRecDepth 10000 in
set_option maxHeartbeats 2000000 in
theorem pX13_peekAll_b28_fr {P : Nat → Prop} {g : MT} {this : Nat} {p1 : Int32} {p2 : Int32} {p3 : Int32} {k28 : Int32 → CT → Option ((Int32) × CT)} {l4 : Int32} {h : CT} {h0 : CT} {r9 : Int32} {h9 : CT} (t0 : gT g this = 12) (P_this : P this) (hk28 : ∀ (v0 : Int32) (v1 : CT), FrC P [(12, 0), (12, 1), (21, 3000)] g h0 v1 → k28 v0 v1 = some (r9, h9) → FrC P [(12, 0), (12, 1), (21, 3000)] g h0 h9) (F0 : FrC P [(12, 0), (12, 1), (21, 3000)] g h0 h) (hf : pX13_peekAll_b28 g this p1 p2 p3 k28 l4 h = some (r9, h9)) : FrC P [(12, 0), (12, 1), (21, 3000)] g h0 h9 := by
  unfold pX13_peekAll_b28 at hf
  by_cases c1 : p3 ≤ l4
  · rw [if_pos c1] at hf
    cases hf
    exact F0
  · rw [if_neg c1] at hf
    obtain ⟨r2, e2⟩ : ∃ z, z = (hR h this 20) := ⟨_, rfl⟩; replace hf := lt_i hf r2 e2
    replace hf := nn_i hf; obtain ⟨a2, e3, hf⟩ := hf
    replace hf := tg_i hf; obtain ⟨t4, hf⟩ := hf
    replace hf := (ix_i hf).2
    replace hf := bd2_i hf; obtain ⟨x7, h5, q5, hf⟩ := hf
    have F6 := FrC.trans F0 (pX13_write_fr F0.1 P_this q5) (by decide)
    obtain ⟨x8, e7⟩ : ∃ z, z = (l4 + 1) := ⟨_, rfl⟩; replace hf := lt_i hf x8 e7
    exact hk28 _ _ F6 hf
set_option maxRecDepth 10000 in
set_option maxHeartbeats 2000000 in
theorem pX13_peekAll_l28_fr {P : Nat → Prop} {g : MT} {this : Nat} {p1 : Int32} {p2 : Int32} {p3 : Int32} {h0 : CT} {r9 : Int32} {h9 : CT} (t0 : gT g this = 12) (P_this : P this) : ∀ (n : Nat) (v1 : Int32) (v2 : CT), FrC P [(12, 0), (12, 1), (21, 3000)] g h0 v2 → pX13_peekAll_l28 g this p1 p2 p3 n v1 v2 = some (r9, h9) → FrC P [(12, 0), (12, 1), (21, 3000)] g h0 h9 := by
  intro n
  induction n with
  | zero => intro v1 v2 F0 hf; cases hf
  | succ n ih => intro v1 v2 F0 hf; exact pX13_peekAll_b28_fr t0 P_this ih F0 hf
set_option maxRecDepth 10000 in
set_option maxHeartbeats 2000000 in
theorem pX13_peekAll_fr {P : Nat → Prop} {g : MT} {h : CT} {this : Nat} {p1 : Int32} {p2 : Int32} {p3 : Int32} {r9 : Int32} {h9 : CT} (hc : Cl P h) (P_this : P this) (hf : pX13_peekAll g h this p1 p2 p3 = some (r9, h9)) : FrC P [(12, 0), (12, 1), (21, 3000)] g h h9 := by
  have F0 : FrC P [(12, 0), (12, 1), (21, 3000)] g h h := FrC.rf hc
  unfold pX13_peekAll at hf
  replace hf := tg_i hf; obtain ⟨t1, hf⟩ := hf
  obtain ⟨h1, e2⟩ : ∃ z, z = (sI h this 1 0) := ⟨_, rfl⟩; replace hf := lt_i hf h1 e2
  have F3 := FrC.sI F0 P_this t1 (Or.inl (by decide)) e2
  replace hf := bd_i hf; obtain ⟨x2, q4, hf⟩ := hf
  obtain ⟨h4, e5⟩ : ∃ z, z = (sI h1 this 0 x2) := ⟨_, rfl⟩; replace hf := lt_i hf h4 e5
  have F6 := FrC.sI F3 P_this t1 (Or.inl (by decide)) e5
  by_cases c7 : (hI h4 this 0) ≤ 0
  · rw [if_pos c7] at hf
    exact pX13_peekAll_l28_fr t1 P_this _ _ _ F6 hf
  · rw [if_neg c7] at hf
    cases hf
    exact F6
set_option maxRecDepth 10000 in
set_option maxHeartbeats 2000000 in
theorem pX13_drop_fr {P : Nat → Prop} {g : MT} {h : CT} {this : Nat} {p1 : Int32} {r9 : Int32} {h9 : CT} (hc : Cl P h) (P_this : P this) (hf : pX13_drop g h this p1 = some (r9, h9)) : FrC P [(12, 0), (12, 1), (20, 1000)] g h h9 := by
  have F0 : FrC P [(12, 0), (12, 1), (20, 1000)] g h h := FrC.rf hc
  unfold pX13_drop at hf
  replace hf := tg_i hf; obtain ⟨t1, hf⟩ := hf
  obtain ⟨h1, e2⟩ : ∃ z, z = (sI h this 1 0) := ⟨_, rfl⟩; replace hf := lt_i hf h1 e2
  have F3 := FrC.sI F0 P_this t1 (Or.inl (by decide)) e2
  obtain ⟨h2, e4⟩ : ∃ z, z = (sI h1 this 0 0) := ⟨_, rfl⟩; replace hf := lt_i hf h2 e4
  have F5 := FrC.sI F3 P_this t1 (Or.inl (by decide)) e4
  by_cases c6 : (pX13_isRow p1) = 0
  · rw [if_pos c6] at hf
    replace hf := bd2_i hf; obtain ⟨x19, h17, q7, hf⟩ := hf
    have F8 := FrC.trans F5 (pX13_no_fr F5.1 P_this q7) (by decide)
    replace hf := (bz_i hf).2
    cases hf
    exact F8
  · rw [if_neg c6] at hf
    obtain ⟨r4, e9⟩ : ∃ z, z = (hR h2 this 19) := ⟨_, rfl⟩; replace hf := lt_i hf r4 e9
    replace hf := nn_i hf; obtain ⟨a4, e10, hf⟩ := hf
    replace hf := tg_i hf; obtain ⟨t11, hf⟩ := hf
    replace hf := (ix_i hf).2
    by_cases c12 : (pX13_has (hI h2 a4 (Int32.toNatClampNeg 4)) p1) = 0
    · rw [if_pos c12] at hf
      replace hf := bd2_i hf; obtain ⟨x15, h13, q13, hf⟩ := hf
      have F14 := FrC.trans F5 (pX13_no_fr F5.1 P_this q13) (by decide)
      replace hf := (bz_i hf).2
      cases hf
      exact F14
    · rw [if_neg c12] at hf
      obtain ⟨r8, e15⟩ : ∃ z, z = (hR h2 this 19) := ⟨_, rfl⟩; replace hf := lt_i hf r8 e15
      replace hf := nn_i hf; obtain ⟨a8, e16, hf⟩ := hf
      replace hf := tg_i hf; obtain ⟨t17, hf⟩ := hf
      replace hf := (ix_i hf).2
      replace hf := (ix_i hf).2
      obtain ⟨h12, e18⟩ : ∃ z, z = (sI h2 a8 (Int32.toNatClampNeg 4) ((hI h2 a8 (Int32.toNatClampNeg 4)) ^^^ ((1 : Int32) <<< (p1 &&& 31)))) := ⟨_, rfl⟩; replace hf := lt_i hf h12 e18
      have F19 := FrC.sI F5 ((fun b hb => F5.1 _ _ b P_this (e15.symm.trans hb)) _ e16) t17 (Or.inr (by decide)) e18
      cases hf
      exact F19
set_option maxRecDepth 10000 in
set_option maxHeartbeats 2000000 in
theorem pX13_rule_b40_fr {P : Nat → Prop} {g : MT} {this : Nat} {p1 : Int32} {p2 : Int32} {h : CT} {h0 : CT} {r9 : Int32} {h9 : CT} (t0 : gT g this = 12) (P_this : P this) (F0 : FrC P [(12, 0), (12, 1), (20, 1000)] g h0 h) (hf : pX13_rule_b40 g this p1 p2 h = some (r9, h9)) : FrC P [(12, 0), (12, 1), (20, 1000)] g h0 h9 := by
  unfold pX13_rule_b40 at hf
  replace hf := bd2_i hf; obtain ⟨x3, h1, q1, hf⟩ := hf
  have F2 := FrC.trans F0 (pX13_no_fr F0.1 P_this q1) (by decide)
  replace hf := (bz_i hf).2
  cases hf
  exact F2
set_option maxRecDepth 10000 in
set_option maxHeartbeats 2000000 in
theorem pX13_rule_fr {P : Nat → Prop} {g : MT} {h : CT} {this : Nat} {p1 : Int32} {p2 : Int32} {r9 : Int32} {h9 : CT} (hc : Cl P h) (P_this : P this) (hf : pX13_rule g h this p1 p2 = some (r9, h9)) : FrC P [(12, 0), (12, 1), (20, 1000)] g h h9 := by
  have F0 : FrC P [(12, 0), (12, 1), (20, 1000)] g h h := FrC.rf hc
  unfold pX13_rule at hf
  replace hf := tg_i hf; obtain ⟨t1, hf⟩ := hf
  obtain ⟨h1, e2⟩ : ∃ z, z = (sI h this 1 0) := ⟨_, rfl⟩; replace hf := lt_i hf h1 e2
  have F3 := FrC.sI F0 P_this t1 (Or.inl (by decide)) e2
  obtain ⟨h2, e4⟩ : ∃ z, z = (sI h1 this 0 0) := ⟨_, rfl⟩; replace hf := lt_i hf h2 e4
  have F5 := FrC.sI F3 P_this t1 (Or.inl (by decide)) e4
  by_cases c6 : (pX13_isIn (Int32.toInt64 p1) 0 3) = 0
  · rw [if_pos c6] at hf
    exact pX13_rule_b40_fr t1 P_this F5 hf
  · rw [if_neg c6] at hf
    by_cases c7 : (pX13_isIn (Int32.toInt64 p2) (Int32.toInt64 (pX13_leastOf p1)) (Int32.toInt64 (pX13_greatestOf p1))) = 0
    · rw [if_pos c7] at hf
      exact pX13_rule_b40_fr t1 P_this F5 hf
    · rw [if_neg c7] at hf
      obtain ⟨r5, e8⟩ : ∃ z, z = (hR h2 this 19) := ⟨_, rfl⟩; replace hf := lt_i hf r5 e8
      replace hf := nn_i hf; obtain ⟨a5, e9, hf⟩ := hf
      replace hf := tg_i hf; obtain ⟨t10, hf⟩ := hf
      replace hf := (ix_i hf).2
      obtain ⟨h8, e11⟩ : ∃ z, z = (sI h2 a5 (Int32.toNatClampNeg p1) p2) := ⟨_, rfl⟩; replace hf := lt_i hf h8 e11
      have F12 := FrC.sI F5 ((fun b hb => F5.1 _ _ b P_this (e8.symm.trans hb)) _ e9) t10 (Or.inr (by decide)) e11
      cases hf
      exact F12
set_option maxRecDepth 10000 in
set_option maxHeartbeats 2000000 in
theorem pX13_lasts_fr {P : Nat → Prop} {g : MT} {h : CT} {this : Nat} {p1 : Int32} {h9 : CT} (hc : Cl P h) (P_this : P this) (hf : pX13_lasts g h this p1 = some h9) : FrC P [(12, 34)] g h h9 := by
  have F0 : FrC P [(12, 34)] g h h := FrC.rf hc
  unfold pX13_lasts at hf
  replace hf := tg_i hf; obtain ⟨t1, hf⟩ := hf
  obtain ⟨h1, e2⟩ : ∃ z, z = (sI h this 34 (pJ9_max_7cf53 (hI h this 34) p1)) := ⟨_, rfl⟩; replace hf := lt_i hf h1 e2
  have F3 := FrC.sI F0 P_this t1 (Or.inl (by decide)) e2
  cases hf
  exact F3
set_option maxRecDepth 10000 in
set_option maxHeartbeats 2000000 in
theorem pX13_traps_fr {P : Nat → Prop} {g : MT} {h : CT} {this : Nat} {p1 : Int32} {p2 : Int32} {p3 : Int32} {h9 : CT} (hc : Cl P h) (P_this : P this) (hf : pX13_traps g h this p1 p2 p3 = some h9) : FrC P [(12, 37), (12, 38), (12, 39), (12, 40)] g h h9 := by
  have F0 : FrC P [(12, 37), (12, 38), (12, 39), (12, 40)] g h h := FrC.rf hc
  unfold pX13_traps at hf
  replace hf := tg_i hf; obtain ⟨t1, hf⟩ := hf
  obtain ⟨h1, e2⟩ : ∃ z, z = (sI h this 37 p1) := ⟨_, rfl⟩; replace hf := lt_i hf h1 e2
  have F3 := FrC.sI F0 P_this t1 (Or.inl (by decide)) e2
  obtain ⟨h2, e4⟩ : ∃ z, z = (sI h1 this 38 p2) := ⟨_, rfl⟩; replace hf := lt_i hf h2 e4
  have F5 := FrC.sI F3 P_this t1 (Or.inl (by decide)) e4
  obtain ⟨h3, e6⟩ : ∃ z, z = (sI h2 this 39 p3) := ⟨_, rfl⟩; replace hf := lt_i hf h3 e6
  have F7 := FrC.sI F5 P_this t1 (Or.inl (by decide)) e6
  obtain ⟨h4, e8⟩ : ∃ z, z = (sI h3 this 40 1) := ⟨_, rfl⟩; replace hf := lt_i hf h4 e8
  have F9 := FrC.sI F7 P_this t1 (Or.inl (by decide)) e8
  cases hf
  exact F9
set_option maxRecDepth 10000 in
set_option maxHeartbeats 2000000 in
theorem pX13_isTrapped_b94_fr {P : Nat → Prop} {g : MT} {this : Nat} {p1 : Int32} {p2 : Int32} {h : CT} {h0 : CT} {r9 : Int32} {h9 : CT} (t0 : gT g this = 12) (P_this : P this) (F0 : FrC P [(12, 37), (12, 38), (12, 39), (12, 40)] g h0 h) (hf : pX13_isTrapped_b94 g this p1 p2 h = some (r9, h9)) : FrC P [(12, 37), (12, 38), (12, 39), (12, 40)] g h0 h9 := by
  unfold pX13_isTrapped_b94 at hf
  by_cases c1 : (hI h this 37) ≤ 0
  · rw [if_pos c1] at hf
    cases hf
    exact F0
  · rw [if_neg c1] at hf
    cases hf
    exact F0
set_option maxRecDepth 10000 in
set_option maxHeartbeats 2000000 in
theorem pX13_isTrapped_b68_fr {P : Nat → Prop} {g : MT} {this : Nat} {p1 : Int32} {p2 : Int32} {l3 : Int32} {h : CT} {h0 : CT} {r9 : Int32} {h9 : CT} (t0 : gT g this = 12) (P_this : P this) (F0 : FrC P [(12, 37), (12, 38), (12, 39), (12, 40)] g h0 h) (hf : pX13_isTrapped_b68 g this p1 p2 l3 h = some (r9, h9)) : FrC P [(12, 37), (12, 38), (12, 39), (12, 40)] g h0 h9 := by
  unfold pX13_isTrapped_b68 at hf
  by_cases c1 : (pX13_isMemory l3) = 0
  · rw [if_pos c1] at hf
    exact pX13_isTrapped_b94_fr t0 P_this F0 hf
  · rw [if_neg c1] at hf
    replace hf := bd_i hf; obtain ⟨x2, q2, hf⟩ := hf
    by_cases c3 : (pX13_isWordAt x2) = 0
    · rw [if_pos c3] at hf
      replace hf := bd_i hf; obtain ⟨h5, q4, hf⟩ := hf
      have F5 := FrC.trans F0 (pX13_traps_fr F0.1 P_this q4) (by decide)
      exact pX13_isTrapped_b94_fr t0 P_this F5 hf
    · rw [if_neg c3] at hf
      exact pX13_isTrapped_b94_fr t0 P_this F0 hf
set_option maxRecDepth 10000 in
set_option maxHeartbeats 2000000 in
theorem pX13_isTrapped_b29_fr {P : Nat → Prop} {g : MT} {this : Nat} {p1 : Int32} {p2 : Int32} {l3 : Int32} {h : CT} {h0 : CT} {r9 : Int32} {h9 : CT} (t0 : gT g this = 12) (P_this : P this) (F0 : FrC P [(12, 37), (12, 38), (12, 39), (12, 40)] g h0 h) (hf : pX13_isTrapped_b29 g this p1 p2 l3 h = some (r9, h9)) : FrC P [(12, 37), (12, 38), (12, 39), (12, 40)] g h0 h9 := by
  unfold pX13_isTrapped_b29 at hf
  by_cases c1 : (pX13_isIndexed l3) = 0
  · rw [if_pos c1] at hf
    exact pX13_isTrapped_b68_fr t0 P_this F0 hf
  · rw [if_neg c1] at hf
    obtain ⟨r2, e2⟩ : ∃ z, z = (hR h this 20) := ⟨_, rfl⟩; replace hf := lt_i hf r2 e2
    replace hf := bd_i hf; obtain ⟨x3, q3, hf⟩ := hf
    replace hf := nn_i hf; obtain ⟨a2, e4, hf⟩ := hf
    replace hf := tg_i hf; obtain ⟨t5, hf⟩ := hf
    replace hf := (ix_i hf).2
    by_cases c6 : (pX13_isIndex (hD h a2 (Int32.toNatClampNeg ((16 * x3) + p2)))) = 0
    · rw [if_pos c6] at hf
      replace hf := bd_i hf; obtain ⟨h8, q7, hf⟩ := hf
      have F8 := FrC.trans F0 (pX13_traps_fr F0.1 P_this q7) (by decide)
      exact pX13_isTrapped_b94_fr t0 P_this F8 hf
    · rw [if_neg c6] at hf
      exact pX13_isTrapped_b68_fr t0 P_this F0 hf
set_option maxRecDepth 10000 in
set_option maxHeartbeats 2000000 in
theorem pX13_isTrapped_fr {P : Nat → Prop} {g : MT} {h : CT} {this : Nat} {p1 : Int32} {p2 : Int32} {r9 : Int32} {h9 : CT} (hc : Cl P h) (P_this : P this) (hf : pX13_isTrapped g h this p1 p2 = some (r9, h9)) : FrC P [(12, 37), (12, 38), (12, 39), (12, 40)] g h h9 := by
  have F0 : FrC P [(12, 37), (12, 38), (12, 39), (12, 40)] g h h := FrC.rf hc
  unfold pX13_isTrapped at hf
  replace hf := tg_i hf; obtain ⟨t1, hf⟩ := hf
  replace hf := bd_i hf; obtain ⟨x1, q2, hf⟩ := hf
  by_cases c3 : p2 = 0
  · rw [if_pos c3] at hf
    replace hf := bd_i hf; obtain ⟨x4, q4, hf⟩ := hf
    by_cases c5 : x4 = 0
    · rw [if_pos c5] at hf
      exact pX13_isTrapped_b29_fr t1 P_this F0 hf
    · rw [if_neg c5] at hf
      replace hf := bd_i hf; obtain ⟨h7, q6, hf⟩ := hf
      have F7 := FrC.trans F0 (pX13_traps_fr F0.1 P_this q6) (by decide)
      exact pX13_isTrapped_b94_fr t1 P_this F7 hf
  · rw [if_neg c3] at hf
    exact pX13_isTrapped_b29_fr t1 P_this F0 hf
set_option maxRecDepth 10000 in
set_option maxHeartbeats 2000000 in
theorem pX13_takenAt_b143_fr {P : Nat → Prop} {g : MT} {this : Nat} {p1 : Int32} {p2 : Int32} {p3 : Int32} {p4 : Int32} {l5 : Int32} {l6 : Int32} {h : CT} {h0 : CT} {r9 : Int32} {h9 : CT} (t0 : gT g this = 12) (P_this : P this) (F0 : FrC P [(12, 35), (20, 1000)] g h0 h) (hf : pX13_takenAt_b143 g this p1 p2 p3 p4 l5 l6 h = some (r9, h9)) : FrC P [(12, 35), (20, 1000)] g h0 h9 := by
  unfold pX13_takenAt_b143 at hf
  by_cases c1 : (pX13_isMemory l5) = 0
  · rw [if_pos c1] at hf
    cases hf
    exact F0
  · rw [if_neg c1] at hf
    replace hf := bd_i hf; obtain ⟨x2, q2, hf⟩ := hf
    obtain ⟨r4, e3⟩ : ∃ z, z = (hR h this 19) := ⟨_, rfl⟩; replace hf := lt_i hf r4 e3
    replace hf := nn_i hf; obtain ⟨a4, e4, hf⟩ := hf
    replace hf := tg_i hf; obtain ⟨t5, hf⟩ := hf
    replace hf := (ix_i hf).2
    replace hf := (dvI_i hf).2
    obtain ⟨x8, e6⟩ : ∃ z, z = (x2 - x2 / (hI h a4 (Int32.toNatClampNeg 1)) * (hI h a4 (Int32.toNatClampNeg 1))) := ⟨_, rfl⟩; replace hf := lt_i hf x8 e6
    obtain ⟨r9, e7⟩ : ∃ z, z = (hR h this 26) := ⟨_, rfl⟩; replace hf := lt_i hf r9 e7
    replace hf := nn_i hf; obtain ⟨a9, e8, hf⟩ := hf
    replace hf := tg_i hf; obtain ⟨t9, hf⟩ := hf
    replace hf := (ix_i hf).2
    obtain ⟨r12, e10⟩ : ∃ z, z = (hR h this 19) := ⟨_, rfl⟩; replace hf := lt_i hf r12 e10
    replace hf := nn_i hf; obtain ⟨a12, e11, hf⟩ := hf
    replace hf := tg_i hf; obtain ⟨t12, hf⟩ := hf
    replace hf := (ix_i hf).2
    obtain ⟨x15, e13⟩ : ∃ z, z = ((hI h a9 (Int32.toNatClampNeg x8)) + (hI h a12 (Int32.toNatClampNeg 2))) := ⟨_, rfl⟩; replace hf := lt_i hf x15 e13
    obtain ⟨h16, e14⟩ : ∃ z, z = (sI h this 35 ((hI h this 35) + (pJ9_max_7cf53 0 (x15 - l6)))) := ⟨_, rfl⟩; replace hf := lt_i hf h16 e14
    have F15 := FrC.sI F0 P_this t0 (Or.inl (by decide)) e14
    obtain ⟨x17, e16⟩ : ∃ z, z = (pJ9_max_7cf53 l6 x15) := ⟨_, rfl⟩; replace hf := lt_i hf x17 e16
    obtain ⟨r18, e17⟩ : ∃ z, z = (hR h16 this 26) := ⟨_, rfl⟩; replace hf := lt_i hf r18 e17
    replace hf := nn_i hf; obtain ⟨a18, e18, hf⟩ := hf
    replace hf := tg_i hf; obtain ⟨t19, hf⟩ := hf
    replace hf := (ix_i hf).2
    obtain ⟨h21, e20⟩ : ∃ z, z = (sI h16 a18 (Int32.toNatClampNeg x8) x17) := ⟨_, rfl⟩; replace hf := lt_i hf h21 e20
    have F21 := FrC.sI F15 ((fun b hb => F15.1 _ _ b P_this (e17.symm.trans hb)) _ e18) t19 (Or.inr (by decide)) e20
    cases hf
    exact F21
