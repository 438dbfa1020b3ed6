/-! what functions leave as it was (written by wip/whole/frames.py) -/
set_option maxRecDepth 10000 in
set_option maxHeartbeats 2000000 in
theorem pX10_beginInstr_b124_fr {P : Nat → Prop} {E : EC} {g : MT} {this : Nat} {p1 : Int32} {p2 : Nat} {p3 : Int32} {l4 : Int32} {h : CT} {h0 : CT} {h9 : CT} (t0 : gT g this = 9) (PE : PEc P E) (P_this : P this) (P_p2 : P p2) (F0 : FrC P [(9, 0), (9, 8), (20, 1000)] g h0 h) (hf : pX10_beginInstr_b124 E g this p1 p2 p3 l4 h = some h9) : FrC P [(9, 0), (9, 8), (20, 1000)] g h0 h9 := by
  unfold pX10_beginInstr_b124 at hf
  replace hf := bd_i hf; obtain ⟨x1, q1, hf⟩ := hf
  obtain ⟨x3, e2⟩ : ∃ z, z = (pJ9_max_7cf53 l4 x1) := ⟨_, rfl⟩; replace hf := lt_i hf x3 e2
  exact pX10_beginInstr_b137_fr t0 PE P_this P_p2 F0 hf
set_option maxRecDepth 10000 in
set_option maxHeartbeats 2000000 in
theorem pX10_beginInstr_b94_fr {P : Nat → Prop} {E : EC} {g : MT} {this : Nat} {p1 : Int32} {p2 : Nat} {p3 : Int32} {l4 : Int32} {h : CT} {h0 : CT} {h9 : CT} (t0 : gT g this = 9) (PE : PEc P E) (P_this : P this) (P_p2 : P p2) (F0 : FrC P [(9, 0), (9, 8), (20, 1000)] g h0 h) (hf : pX10_beginInstr_b94 E g this p1 p2 p3 l4 h = some h9) : FrC P [(9, 0), (9, 8), (20, 1000)] g h0 h9 := by
  unfold pX10_beginInstr_b94 at hf
  replace hf := tg_i hf; obtain ⟨t1, hf⟩ := hf
  obtain ⟨r2, e2⟩ : ∃ z, z = (hR h p2 0) := ⟨_, rfl⟩; replace hf := lt_i hf r2 e2
  replace hf := kR_i hf; obtain ⟨a3, e3, hf⟩ := hf
  by_cases c4 : r2 = (some a3)
  · rw [if_pos c4] at hf
    exact pX10_beginInstr_b124_fr t0 PE P_this P_p2 F0 hf
  · rw [if_neg c4] at hf
    obtain ⟨r5, e5⟩ : ∃ z, z = (hR h p2 0) := ⟨_, rfl⟩; replace hf := lt_i hf r5 e5
    replace hf := kR_i hf; obtain ⟨a6, e6, hf⟩ := hf
    by_cases c7 : r5 = (some a6)
    · rw [if_pos c7] at hf
      exact pX10_beginInstr_b124_fr t0 PE P_this P_p2 F0 hf
    · rw [if_neg c7] at hf
      obtain ⟨r8, e8⟩ : ∃ z, z = (hR h p2 0) := ⟨_, rfl⟩; replace hf := lt_i hf r8 e8
      replace hf := kR_i hf; obtain ⟨a9, e9, hf⟩ := hf
      by_cases c10 : r8 = (some a9)
      · rw [if_pos c10] at hf
        exact pX10_beginInstr_b124_fr t0 PE P_this P_p2 F0 hf
      · rw [if_neg c10] at hf
        exact pX10_beginInstr_b137_fr t0 PE P_this P_p2 F0 hf
set_option maxRecDepth 10000 in
set_option maxHeartbeats 2000000 in
theorem pX10_beginInstr_b71_fr {P : Nat → Prop} {E : EC} {g : MT} {this : Nat} {p1 : Int32} {p2 : Nat} {p3 : Int32} {l4 : Int32} {h : CT} {h0 : CT} {h9 : CT} (t0 : gT g this = 9) (PE : PEc P E) (P_this : P this) (P_p2 : P p2) (F0 : FrC P [(9, 0), (9, 8), (20, 1000)] g h0 h) (hf : pX10_beginInstr_b71 E g this p1 p2 p3 l4 h = some h9) : FrC P [(9, 0), (9, 8), (20, 1000)] g h0 h9 := by
  unfold pX10_beginInstr_b71 at hf
  replace hf := tg_i hf; obtain ⟨t1, hf⟩ := hf
  obtain ⟨r2, e2⟩ : ∃ z, z = (hR h p2 0) := ⟨_, rfl⟩; replace hf := lt_i hf r2 e2
  replace hf := nn_i hf; obtain ⟨a2, e3, hf⟩ := hf
  replace hf := tg_i hf; obtain ⟨t4, hf⟩ := hf
  replace hf := bd_i hf; obtain ⟨x4, q5, hf⟩ := hf
  by_cases c6 : x4 = 0
  · rw [if_pos c6] at hf
    exact pX10_beginInstr_b94_fr t0 PE P_this P_p2 F0 hf
  · rw [if_neg c6] at hf
    obtain ⟨x7, e7⟩ : ∃ z, z = (pJ9_max_7cf53 l4 (hI h this 12)) := ⟨_, rfl⟩; replace hf := lt_i hf x7 e7
    exact pX10_beginInstr_b94_fr t0 PE P_this P_p2 F0 hf
set_option maxRecDepth 10000 in
set_option maxHeartbeats 2000000 in
theorem pX10_beginInstr_b53_fr {P : Nat → Prop} {E : EC} {g : MT} {this : Nat} {p1 : Int32} {p2 : Nat} {p3 : Int32} {l4 : Int32} {h : CT} {h0 : CT} {h9 : CT} (t0 : gT g this = 9) (PE : PEc P E) (P_this : P this) (P_p2 : P p2) (F0 : FrC P [(9, 0), (9, 8), (20, 1000)] g h0 h) (hf : pX10_beginInstr_b53 E g this p1 p2 p3 l4 h = some h9) : FrC P [(9, 0), (9, 8), (20, 1000)] g h0 h9 := by
  unfold pX10_beginInstr_b53 at hf
  replace hf := tg_i hf; obtain ⟨t1, hf⟩ := hf
  replace hf := bd_i hf; obtain ⟨x2, q2, hf⟩ := hf
  by_cases c3 : x2 = 0
  · rw [if_pos c3] at hf
    exact pX10_beginInstr_b71_fr t0 PE P_this P_p2 F0 hf
  · rw [if_neg c3] at hf
    obtain ⟨x5, e4⟩ : ∃ z, z = (pJ9_max_7cf53 l4 (hI h this 11)) := ⟨_, rfl⟩; replace hf := lt_i hf x5 e4
    exact pX10_beginInstr_b71_fr t0 PE P_this P_p2 F0 hf
set_option maxRecDepth 10000 in
set_option maxHeartbeats 2000000 in
theorem pX10_beginInstr_fr {P : Nat → Prop} {E : EC} {g : MT} {h : CT} {this : Nat} {p1 : Int32} {p2 : Nat} {p3 : Int32} {h9 : CT} (PE : PEc P E) (hc : Cl P h) (P_this : P this) (P_p2 : P p2) (hf : pX10_beginInstr E g h this p1 p2 p3 = some h9) : FrC P [(9, 0), (9, 8), (20, 1000)] g h h9 := by
  have F0 : FrC P [(9, 0), (9, 8), (20, 1000)] g h h := FrC.rf hc
  unfold pX10_beginInstr at hf
  replace hf := tg_i hf; obtain ⟨t1, hf⟩ := hf
  obtain ⟨x1, e2⟩ : ∃ z, z = (pJ9_max_7cf53 ((hI h this 8) + 1) (hI h this 9)) := ⟨_, rfl⟩; replace hf := lt_i hf x1 e2
  replace hf := tg_i hf; obtain ⟨t3, hf⟩ := hf
  obtain ⟨r3, e4⟩ : ∃ z, z = (hR h p2 0) := ⟨_, rfl⟩; replace hf := lt_i hf r3 e4
  replace hf := nn_i hf; obtain ⟨a3, e5, hf⟩ := hf
  replace hf := tg_i hf; obtain ⟨t6, hf⟩ := hf
  obtain ⟨x5, e7⟩ : ∃ z, z = (hI E.2.1 a3 2) := ⟨_, rfl⟩; replace hf := lt_i hf x5 e7
  by_cases c8 : x5 < 0
  · rw [if_pos c8] at hf
    exact pX10_beginInstr_b53_fr t1 PE P_this P_p2 F0 hf
  · rw [if_neg c8] at hf
    obtain ⟨r7, e9⟩ : ∃ z, z = (hR h this 13) := ⟨_, rfl⟩; replace hf := lt_i hf r7 e9
    replace hf := nn_i hf; obtain ⟨a7, e10, hf⟩ := hf
    replace hf := tg_i hf; obtain ⟨t11, hf⟩ := hf
    by_cases c12 : (Int32.ofNat (gL g a7)) ≤ x5
    · rw [if_pos c12] at hf
      exact pX10_beginInstr_b53_fr t1 PE P_this P_p2 F0 hf
    · rw [if_neg c12] at hf
      obtain ⟨r10, e13⟩ : ∃ z, z = (hR h this 13) := ⟨_, rfl⟩; replace hf := lt_i hf r10 e13
      replace hf := nn_i hf; obtain ⟨a10, e14, hf⟩ := hf
      replace hf := tg_i hf; obtain ⟨t15, hf⟩ := hf
      replace hf := (ix_i hf).2
      obtain ⟨x13, e16⟩ : ∃ z, z = (pJ9_max_7cf53 x1 (hI h a10 (Int32.toNatClampNeg x5))) := ⟨_, rfl⟩; replace hf := lt_i hf x13 e16
      exact pX10_beginInstr_b53_fr t1 PE P_this P_p2 F0 hf
set_option maxRecDepth 10000 in
set_option maxHeartbeats 2000000 in
theorem pX10_take_b161_fr {P : Nat → Prop} {E : EC} {g : MT} {this : Nat} {p1 : Int32} {p2 : Nat} {p3 : Int32} {p4 : Int32} {p5 : Int32} {h : CT} {h0 : CT} {h9 : CT} (t0 : gT g this = 9) (PE : PEc P E) (P_this : P this) (P_p2 : P p2) (F0 : FrC P [(9, 0), (9, 1), (9, 10), (20, 1000)] g h0 h) (hf : pX10_take_b161 E g this p1 p2 p3 p4 p5 h = some h9) : FrC P [(9, 0), (9, 1), (9, 10), (20, 1000)] g h0 h9 := by
  unfold pX10_take_b161 at hf
  replace hf := bd_i hf; obtain ⟨h1, q1, hf⟩ := hf
  have F2 := FrC.trans F0 (pX10_endAt_fr F0.1 P_this q1) (by decide)
  cases hf
  exact F2
set_option maxRecDepth 10000 in
set_option maxHeartbeats 2000000 in
theorem pX10_take_b120_fr {P : Nat → Prop} {E : EC} {g : MT} {this : Nat} {p1 : Int32} {p2 : Nat} {p3 : Int32} {p4 : Int32} {p5 : Int32} {l6 : Int32} {l7 : Int32} {l8 : Int32} {h : CT} {h0 : CT} {h9 : CT} (t0 : gT g this = 9) (PE : PEc P E) (P_this : P this) (P_p2 : P p2) (F0 : FrC P [(9, 0), (9, 1), (9, 10), (20, 1000)] g h0 h) (hf : pX10_take_b120 E g this p1 p2 p3 p4 p5 l6 l7 l8 h = some h9) : FrC P [(9, 0), (9, 1), (9, 10), (20, 1000)] g h0 h9 := by
  unfold pX10_take_b120 at hf
  replace hf := bd2_i hf; obtain ⟨x3, h1, q1, hf⟩ := hf
  have F2 := FrC.trans F0 (pX10_throughBank_fr F0.1 P_this q1) (by decide)
  obtain ⟨h4, e3⟩ : ∃ z, z = (sI h1 this 10 x3) := ⟨_, rfl⟩; replace hf := lt_i hf h4 e3
  have F4 := FrC.sI F2 P_this t0 (Or.inl (by decide)) e3
  replace hf := bd_i hf; obtain ⟨h5, q5, hf⟩ := hf
  have F6 := FrC.trans F4 (pX10_readOperands_fr PE F4.1 P_this P_p2 q5) (by decide)
  by_cases c7 : l7 = 0
  · rw [if_pos c7] at hf
    exact pX10_take_b161_fr t0 PE P_this P_p2 F6 hf
  · rw [if_neg c7] at hf
    replace hf := tg_i hf; obtain ⟨t8, hf⟩ := hf
    replace hf := bd_i hf; obtain ⟨h9, q9, hf⟩ := hf
    have F10 := FrC.trans F6 (pX10_readyFrom_fr F6.1 P_this q9) (by decide)
    exact pX10_take_b161_fr t0 PE P_this P_p2 F10 hf
set_option maxRecDepth 10000 in
set_option maxHeartbeats 2000000 in
theorem pX10_take_b61_fr {P : Nat → Prop} {E : EC} {g : MT} {this : Nat} {p1 : Int32} {p2 : Nat} {p3 : Int32} {p4 : Int32} {p5 : Int32} {l6 : Int32} {l7 : Int32} {s0 : Int32} {h : CT} {h0 : CT} {h9 : CT} (t0 : gT g this = 9) (PE : PEc P E) (P_this : P this) (P_p2 : P p2) (F0 : FrC P [(9, 0), (9, 1), (9, 10), (20, 1000)] g h0 h) (hf : pX10_take_b61 E g this p1 p2 p3 p4 p5 l6 l7 s0 h = some h9) : FrC P [(9, 0), (9, 1), (9, 10), (20, 1000)] g h0 h9 := by
  unfold pX10_take_b61 at hf
  replace hf := bd_i hf; obtain ⟨x1, q1, hf⟩ := hf
  obtain ⟨x3, e2⟩ : ∃ z, z = (pJ9_max_7cf53 s0 x1) := ⟨_, rfl⟩; replace hf := lt_i hf x3 e2
  by_cases c3 : l7 = 0
  · rw [if_pos c3] at hf
    exact pX10_take_b120_fr t0 PE P_this P_p2 F0 hf
  · rw [if_neg c3] at hf
    replace hf := tg_i hf; obtain ⟨t4, hf⟩ := hf
    obtain ⟨x6, e5⟩ : ∃ z, z = (pX10_cell (hI h p2 1) p3) := ⟨_, rfl⟩; replace hf := lt_i hf x6 e5
    obtain ⟨r7, e6⟩ : ∃ z, z = (hR h this 14) := ⟨_, rfl⟩; replace hf := lt_i hf r7 e6
    replace hf := nn_i hf; obtain ⟨a7, e7, hf⟩ := hf
    replace hf := tg_i hf; obtain ⟨t8, hf⟩ := hf
    replace hf := (ix_i hf).2
    obtain ⟨r10, e9⟩ : ∃ z, z = (hR h this 15) := ⟨_, rfl⟩; replace hf := lt_i hf r10 e9
    replace hf := nn_i hf; obtain ⟨a10, e10, hf⟩ := hf
    replace hf := tg_i hf; obtain ⟨t11, hf⟩ := hf
    replace hf := (ix_i hf).2
    obtain ⟨x13, e12⟩ : ∃ z, z = (pJ9_max_7cf53 x3 (((pJ9_max_7cf53 (hI h a7 (Int32.toNatClampNeg x6)) (hI h a10 (Int32.toNatClampNeg x6))) + 1) - l6)) := ⟨_, rfl⟩; replace hf := lt_i hf x13 e12
    exact pX10_take_b120_fr t0 PE P_this P_p2 F0 hf
set_option maxRecDepth 10000 in
set_option maxHeartbeats 2000000 in
theorem pX10_take_b35_fr {P : Nat → Prop} {E : EC} {g : MT} {this : Nat} {p1 : Int32} {p2 : Nat} {p3 : Int32} {p4 : Int32} {p5 : Int32} {l6 : Int32} {s0 : Int32} {h : CT} {h0 : CT} {h9 : CT} (t0 : gT g this = 9) (PE : PEc P E) (P_this : P this) (P_p2 : P p2) (F0 : FrC P [(9, 0), (9, 1), (9, 10), (20, 1000)] g h0 h) (hf : pX10_take_b35 E g this p1 p2 p3 p4 p5 l6 s0 h = some h9) : FrC P [(9, 0), (9, 1), (9, 10), (20, 1000)] g h0 h9 := by
  unfold pX10_take_b35 at hf
  by_cases c1 : p3 = 0
  · rw [if_pos c1] at hf
    exact pX10_take_b61_fr t0 PE P_this P_p2 F0 hf
  · rw [if_neg c1] at hf
    exact pX10_take_b61_fr t0 PE P_this P_p2 F0 hf
set_option maxRecDepth 10000 in
set_option maxHeartbeats 2000000 in
theorem pX10_take_b34_fr {P : Nat → Prop} {E : EC} {g : MT} {this : Nat} {p1 : Int32} {p2 : Nat} {p3 : Int32} {p4 : Int32} {p5 : Int32} {l6 : Int32} {h : CT} {h0 : CT} {h9 : CT} (t0 : gT g this = 9) (PE : PEc P E) (P_this : P this) (P_p2 : P p2) (F0 : FrC P [(9, 0), (9, 1), (9, 10), (20, 1000)] g h0 h) (hf : pX10_take_b34 E g this p1 p2 p3 p4 p5 l6 h = some h9) : FrC P [(9, 0), (9, 1), (9, 10), (20, 1000)] g h0 h9 := by
  unfold pX10_take_b34 at hf
  exact pX10_take_b35_fr t0 PE P_this P_p2 F0 hf
set_option maxRecDepth 10000 in
set_option maxHeartbeats 2000000 in
theorem pX10_take_fr {P : Nat → Prop} {E : EC} {g : MT} {h : CT} {this : Nat} {p1 : Int32} {p2 : Nat} {p3 : Int32} {p4 : Int32} {p5 : Int32} {h9 : CT} (PE : PEc P E) (hc : Cl P h) (P_this : P this) (P_p2 : P p2) (hf : pX10_take E g h this p1 p2 p3 p4 p5 = some h9) : FrC P [(9, 0), (9, 1), (9, 10), (20, 1000)] g h h9 := by
  have F0 : FrC P [(9, 0), (9, 1), (9, 10), (20, 1000)] g h h := FrC.rf hc
  unfold pX10_take at hf
  replace hf := tg_i hf; obtain ⟨t1, hf⟩ := hf
  replace hf := tg_i hf; obtain ⟨t2, hf⟩ := hf
  obtain ⟨r2, e3⟩ : ∃ z, z = (hR h p2 0) := ⟨_, rfl⟩; replace hf := lt_i hf r2 e3
  replace hf := nn_i hf; obtain ⟨a2, e4, hf⟩ := hf
  replace hf := tg_i hf; obtain ⟨t5, hf⟩ := hf
  replace hf := bd_i hf; obtain ⟨x4, q6, hf⟩ := hf
  obtain ⟨r6, e7⟩ : ∃ z, z = (hR h p2 0) := ⟨_, rfl⟩; replace hf := lt_i hf r6 e7
  replace hf := nn_i hf; obtain ⟨a6, e8, hf⟩ := hf
  replace hf := tg_i hf; obtain ⟨t9, hf⟩ := hf
  replace hf := bd_i hf; obtain ⟨x8, q10, hf⟩ := hf
  by_cases c11 : x8 = 0
  · rw [if_pos c11] at hf
    exact pX10_take_b34_fr t1 PE P_this P_p2 F0 hf
  · rw [if_neg c11] at hf
    obtain ⟨r11, e12⟩ : ∃ z, z = (hR h p2 0) := ⟨_, rfl⟩; replace hf := lt_i hf r11 e12
    replace hf := kR_i hf; obtain ⟨a12, e13, hf⟩ := hf
    by_cases c14 : r11 = (some a12)
    · rw [if_pos c14] at hf
      exact pX10_take_b34_fr t1 PE P_this P_p2 F0 hf
    · rw [if_neg c14] at hf
      exact pX10_take_b35_fr t1 PE P_this P_p2 F0 hf
set_option maxRecDepth 10000 in
set_option maxHeartbeats 2000000 in
theorem pX6_nextToken_b166_fr {P : Nat → Prop} {g : MT} {this : Nat} {h : CT} {h0 : CT} {r9 : Int32} {h9 : CT} (t0 : gT g this = 5) (P_this : P this) (F0 : FrC P [(5, 4), (5, 5), (5, 6)] g h0 h) (hf : pX6_nextToken_b166 g this h = some (r9, h9)) : FrC P [(5, 4), (5, 5), (5, 6)] g h0 h9 := by
  unfold pX6_nextToken_b166 at hf
  by_cases c1 : (hI h this 6) = 2
  · rw [if_pos c1] at hf
    by_cases c2 : ((hI h this 5) - (hI h this 4)) ≤ 4
    · rw [if_pos c2] at hf
      cases hf
      exact F0
    · rw [if_neg c2] at hf
      obtain ⟨h3, e3⟩ : ∃ z, z = (sI h this 6 0) := ⟨_, rfl⟩; replace hf := lt_i hf h3 e3
      have F4 := FrC.sI F0 P_this t0 (Or.inl (by decide)) e3
      cases hf
      exact F4
  · rw [if_neg c1] at hf
    cases hf
    exact F0
set_option maxRecDepth 10000 in
set_option maxHeartbeats 2000000 in
theorem pX6_nextToken_b123_fr {P : Nat → Prop} {g : MT} {this : Nat} {k107 : CT → Option ((Int32) × CT)} {h : CT} {h0 : CT} {r9 : Int32} {h9 : CT} (t0 : gT g this = 5) (P_this : P this) (hk107 : ∀ (v0 : CT), FrC P [(5, 4), (5, 5), (5, 6)] g h0 v0 → k107 v0 = some (r9, h9) → FrC P [(5, 4), (5, 5), (5, 6)] g h0 h9) (F0 : FrC P [(5, 4), (5, 5), (5, 6)] g h0 h) (hf : pX6_nextToken_b123 g this k107 h = some (r9, h9)) : FrC P [(5, 4), (5, 5), (5, 6)] g h0 h9 := by
  unfold pX6_nextToken_b123 at hf
  by_cases c1 : (hI h this 3) ≤ (hI h this 5)
  · rw [if_pos c1] at hf
    exact pX6_nextToken_b166_fr t0 P_this F0 hf
  · rw [if_neg c1] at hf
    obtain ⟨r2, e2⟩ : ∃ z, z = (hR h this 2) := ⟨_, rfl⟩; replace hf := lt_i hf r2 e2
    replace hf := nn_i hf; obtain ⟨a2, e3, hf⟩ := hf
    replace hf := tg_i hf; obtain ⟨t4, hf⟩ := hf
    replace hf := (ix_i hf).2
    by_cases c5 : (pX6_sortOf (hI h a2 (Int32.toNatClampNeg (hI h this 5)))) = (hI h this 6)
    · rw [if_pos c5] at hf
      obtain ⟨h6, e6⟩ : ∃ z, z = (sI h this 5 ((hI h this 5) + 1)) := ⟨_, rfl⟩; replace hf := lt_i hf h6 e6
      have F7 := FrC.sI F0 P_this t0 (Or.inl (by decide)) e6
      exact hk107 _ F7 hf
    · rw [if_neg c5] at hf
      exact pX6_nextToken_b166_fr t0 P_this F0 hf
set_option maxRecDepth 10000 in
set_option maxHeartbeats 2000000 in
theorem pX6_nextToken_b107_fr {P : Nat → Prop} {g : MT} {this : Nat} {k107 : CT → Option ((Int32) × CT)} {h : CT} {h0 : CT} {r9 : Int32} {h9 : CT} (t0 : gT g this = 5) (P_this : P this) (hk107 : ∀ (v0 : CT), FrC P [(5, 4), (5, 5), (5, 6)] g h0 v0 → k107 v0 = some (r9, h9) → FrC P [(5, 4), (5, 5), (5, 6)] g h0 h9) (F0 : FrC P [(5, 4), (5, 5), (5, 6)] g h0 h) (hf : pX6_nextToken_b107 g this k107 h = some (r9, h9)) : FrC P [(5, 4), (5, 5), (5, 6)] g h0 h9 := by
  unfold pX6_nextToken_b107 at hf
  by_cases c1 : (hI h this 6) = 1
  · rw [if_pos c1] at hf
    exact pX6_nextToken_b123_fr t0 P_this hk107 F0 hf
  · rw [if_neg c1] at hf
    by_cases c2 : (hI h this 6) = 2
    · rw [if_pos c2] at hf
      exact pX6_nextToken_b123_fr t0 P_this hk107 F0 hf
    · rw [if_neg c2] at hf
      exact pX6_nextToken_b166_fr t0 P_this F0 hf
set_option maxRecDepth 10000 in
set_option maxHeartbeats 2000000 in
theorem pX6_nextToken_l107_fr {P : Nat → Prop} {g : MT} {this : Nat} {h0 : CT} {r9 : Int32} {h9 : CT} (t0 : gT g this = 5) (P_this : P this) : ∀ (n : Nat) (v1 : CT), FrC P [(5, 4), (5, 5), (5, 6)] g h0 v1 → pX6_nextToken_l107 g this n v1 = some (r9, h9) → FrC P [(5, 4), (5, 5), (5, 6)] g h0 h9 := by
  intro n
  induction n with
  | zero => intro v1 F0 hf; cases hf
  | succ n ih => intro v1 F0 hf; exact pX6_nextToken_b107_fr t0 P_this ih F0 hf
set_option maxRecDepth 10000 in
set_option maxHeartbeats 2000000 in
theorem pX6_nextToken_b60_fr {P : Nat → Prop} {g : MT} {this : Nat} {h : CT} {h0 : CT} {r9 : Int32} {h9 : CT} (t0 : gT g this = 5) (P_this : P this) (F0 : FrC P [(5, 4), (5, 5), (5, 6)] g h0 h) (hf : pX6_nextToken_b60 g this h = some (r9, h9)) : FrC P [(5, 4), (5, 5), (5, 6)] g h0 h9 := by
  unfold pX6_nextToken_b60 at hf
  obtain ⟨h1, e1⟩ : ∃ z, z = (sI h this 5 (hI h this 4)) := ⟨_, rfl⟩; replace hf := lt_i hf h1 e1
  have F2 := FrC.sI F0 P_this t0 (Or.inl (by decide)) e1
  by_cases c3 : (hI h1 this 4) < (hI h1 this 3)
  · rw [if_pos c3] at hf
    obtain ⟨r3, e4⟩ : ∃ z, z = (hR h1 this 2) := ⟨_, rfl⟩; replace hf := lt_i hf r3 e4
    replace hf := nn_i hf; obtain ⟨a3, e5, hf⟩ := hf
    replace hf := tg_i hf; obtain ⟨t6, hf⟩ := hf
    replace hf := (ix_i hf).2
    obtain ⟨h6, e7⟩ : ∃ z, z = (sI h1 this 6 (pX6_sortOf (hI h1 a3 (Int32.toNatClampNeg (hI h1 this 4))))) := ⟨_, rfl⟩; replace hf := lt_i hf h6 e7
    have F8 := FrC.sI F2 P_this t0 (Or.inl (by decide)) e7
    obtain ⟨h7, e9⟩ : ∃ z, z = (sI h6 this 5 ((hI h6 this 5) + 1)) := ⟨_, rfl⟩; replace hf := lt_i hf h7 e9
    have F10 := FrC.sI F8 P_this t0 (Or.inl (by decide)) e9
    exact pX6_nextToken_l107_fr t0 P_this _ _ F10 hf
  · rw [if_neg c3] at hf
    cases hf
    exact F2
set_option maxRecDepth 10000 in
set_option maxHeartbeats 2000000 in
theorem pX6_nextToken_b47_fr {P : Nat → Prop} {g : MT} {this : Nat} {k8 : CT → Option ((Int32) × CT)} {h : CT} {h0 : CT} {r9 : Int32} {h9 : CT} (t0 : gT g this = 5) (P_this : P this) (hk8 : ∀ (v0 : CT), FrC P [(5, 4), (5, 5), (5, 6)] g h0 v0 → k8 v0 = some (r9, h9) → FrC P [(5, 4), (5, 5), (5, 6)] g h0 h9) (F0 : FrC P [(5, 4), (5, 5), (5, 6)] g h0 h) (hf : pX6_nextToken_b47 g this k8 h = some (r9, h9)) : FrC P [(5, 4), (5, 5), (5, 6)] g h0 h9 := by
  unfold pX6_nextToken_b47 at hf
  obtain ⟨h1, e1⟩ : ∃ z, z = (sI h this 4 ((hI h this 4) + 1)) := ⟨_, rfl⟩; replace hf := lt_i hf h1 e1
  have F2 := FrC.sI F0 P_this t0 (Or.inl (by decide)) e1
  exact hk8 _ F2 hf
set_option maxRecDepth 10000 in
set_option maxHeartbeats 2000000 in
theorem pX6_nextToken_b8_fr {P : Nat → Prop} {g : MT} {this : Nat} {k8 : CT → Option ((Int32) × CT)} {h : CT} {h0 : CT} {r9 : Int32} {h9 : CT} (t0 : gT g this = 5) (P_this : P this) (hk8 : ∀ (v0 : CT), FrC P [(5, 4), (5, 5), (5, 6)] g h0 v0 → k8 v0 = some (r9, h9) → FrC P [(5, 4), (5, 5), (5, 6)] g h0 h9) (F0 : FrC P [(5, 4), (5, 5), (5, 6)] g h0 h) (hf : pX6_nextToken_b8 g this k8 h = some (r9, h9)) : FrC P [(5, 4), (5, 5), (5, 6)] g h0 h9 := by
  unfold pX6_nextToken_b8 at hf
  by_cases c1 : (hI h this 3) ≤ (hI h this 4)
  · rw [if_pos c1] at hf
    exact pX6_nextToken_b60_fr t0 P_this F0 hf
  · rw [if_neg c1] at hf
    obtain ⟨r2, e2⟩ : ∃ z, z = (hR h this 2) := ⟨_, rfl⟩; replace hf := lt_i hf r2 e2
    replace hf := nn_i hf; obtain ⟨a2, e3, hf⟩ := hf
    replace hf := tg_i hf; obtain ⟨t4, hf⟩ := hf
    replace hf := (ix_i hf).2
    by_cases c5 : (hI h a2 (Int32.toNatClampNeg (hI h this 4))) = 10
    · rw [if_pos c5] at hf
      exact pX6_nextToken_b47_fr t0 P_this hk8 F0 hf
    · rw [if_neg c5] at hf
      obtain ⟨r6, e6⟩ : ∃ z, z = (hR h this 2) := ⟨_, rfl⟩; replace hf := lt_i hf r6 e6
      replace hf := nn_i hf; obtain ⟨a6, e7, hf⟩ := hf
      replace hf := tg_i hf; obtain ⟨t8, hf⟩ := hf
      replace hf := (ix_i hf).2
      by_cases c9 : (hI h a6 (Int32.toNatClampNeg (hI h this 4))) = 32
      · rw [if_pos c9] at hf
        exact pX6_nextToken_b47_fr t0 P_this hk8 F0 hf
      · rw [if_neg c9] at hf
        exact pX6_nextToken_b60_fr t0 P_this F0 hf
set_option maxRecDepth 10000 in
set_option maxHeartbeats 2000000 in
theorem pX6_nextToken_l8_fr {P : Nat → Prop} {g : MT} {this : Nat} {h0 : CT} {r9 : Int32} {h9 : CT} (t0 : gT g this = 5) (P_this : P this) : ∀ (n : Nat) (v1 : CT), FrC P [(5, 4), (5, 5), (5, 6)] g h0 v1 → pX6_nextToken_l8 g this n v1 = some (r9, h9) → FrC P [(5, 4), (5, 5), (5, 6)] g h0 h9 := by
  intro n
  induction n with
  | zero => intro v1 F0 hf; cases hf
  | succ n ih => intro v1 F0 hf; exact pX6_nextToken_b8_fr t0 P_this ih F0 hf
set_option maxRecDepth 10000 in
set_option maxHeartbeats 2000000 in
theorem pX6_nextToken_fr {P : Nat → Prop} {g : MT} {h : CT} {this : Nat} {r9 : Int32} {h9 : CT} (hc : Cl P h) (P_this : P this) (hf : pX6_nextToken g h this = some (r9, h9)) : FrC P [(5, 4), (5, 5), (5, 6)] g h h9 := by
  have F0 : FrC P [(5, 4), (5, 5), (5, 6)] g h h := FrC.rf hc
  unfold pX6_nextToken at hf
  replace hf := tg_i hf; obtain ⟨t1, hf⟩ := hf
  obtain ⟨h1, e2⟩ : ∃ z, z = (sI h this 4 (hI h this 5)) := ⟨_, rfl⟩; replace hf := lt_i hf h1 e2
  have F3 := FrC.sI F0 P_this t1 (Or.inl (by decide)) e2
  exact pX6_nextToken_l8_fr t1 P_this _ _ F3 hf
set_option maxRecDepth 10000 in
set_option maxHeartbeats 2000000 in
theorem pX6_followName_b24_fr {P : Nat → Prop} {g : MT} {this : Nat} {p1 : Int32} {s0 : Int32} {h : CT} {h0 : CT} {r9 : Int32} {h9 : CT} (t0 : gT g this = 5) (P_this : P this) (F0 : FrC P [(2, 1), (2, 2), (2, 3), (2, 4)] g h0 h) (hf : pX6_followName_b24 g this p1 s0 h = some (r9, h9)) : FrC P [(2, 1), (2, 2), (2, 3), (2, 4)] g h0 h9 := by
  unfold pX6_followName_b24 at hf
  by_cases c1 : s0 = (-1)
  · rw [if_pos c1] at hf
    cases hf
    exact F0
  · rw [if_neg c1] at hf
    obtain ⟨r2, e2⟩ : ∃ z, z = (hR h this 8) := ⟨_, rfl⟩; replace hf := lt_i hf r2 e2
    by_cases c3 : r2 = none
    · rw [if_pos c3] at hf
      cases hf
      exact F0
    · rw [if_neg c3] at hf
      by_cases c4 : p1 = 100
      · rw [if_pos c4] at hf
        obtain ⟨r16, e5⟩ : ∃ z, z = (hR h this 8) := ⟨_, rfl⟩; replace hf := lt_i hf r16 e5
        replace hf := nn_i hf; obtain ⟨a16, e6, hf⟩ := hf
        replace hf := tg_i hf; obtain ⟨t7, hf⟩ := hf
        obtain ⟨h18, e8⟩ : ∃ z, z = (sI h a16 1 s0) := ⟨_, rfl⟩; replace hf := lt_i hf h18 e8
        have F9 := FrC.sI F0 ((fun b hb => F0.1 _ _ b P_this (e5.symm.trans hb)) _ e6) t7 (Or.inl (by decide)) e8
        cases hf
        exact F9
      · rw [if_neg c4] at hf
        by_cases c10 : p1 = 97
        · rw [if_pos c10] at hf
          obtain ⟨r13, e11⟩ : ∃ z, z = (hR h this 8) := ⟨_, rfl⟩; replace hf := lt_i hf r13 e11
          replace hf := nn_i hf; obtain ⟨a13, e12, hf⟩ := hf
          replace hf := tg_i hf; obtain ⟨t13, hf⟩ := hf
          obtain ⟨h15, e14⟩ : ∃ z, z = (sI h a13 2 s0) := ⟨_, rfl⟩; replace hf := lt_i hf h15 e14
          have F15 := FrC.sI F0 ((fun b hb => F0.1 _ _ b P_this (e11.symm.trans hb)) _ e12) t13 (Or.inl (by decide)) e14
          cases hf
          exact F15
        · rw [if_neg c10] at hf
          by_cases c16 : p1 = 98
          · rw [if_pos c16] at hf
            obtain ⟨r10, e17⟩ : ∃ z, z = (hR h this 8) := ⟨_, rfl⟩; replace hf := lt_i hf r10 e17
            replace hf := nn_i hf; obtain ⟨a10, e18, hf⟩ := hf
            replace hf := tg_i hf; obtain ⟨t19, hf⟩ := hf
            obtain ⟨h12, e20⟩ : ∃ z, z = (sI h a10 3 s0) := ⟨_, rfl⟩; replace hf := lt_i hf h12 e20
            have F21 := FrC.sI F0 ((fun b hb => F0.1 _ _ b P_this (e17.symm.trans hb)) _ e18) t19 (Or.inl (by decide)) e20
            cases hf
            exact F21
          · rw [if_neg c16] at hf
            obtain ⟨r7, e22⟩ : ∃ z, z = (hR h this 8) := ⟨_, rfl⟩; replace hf := lt_i hf r7 e22
            replace hf := nn_i hf; obtain ⟨a7, e23, hf⟩ := hf
            replace hf := tg_i hf; obtain ⟨t24, hf⟩ := hf
            obtain ⟨h9, e25⟩ : ∃ z, z = (sI h a7 4 s0) := ⟨_, rfl⟩; replace hf := lt_i hf h9 e25
            have F26 := FrC.sI F0 ((fun b hb => F0.1 _ _ b P_this (e22.symm.trans hb)) _ e23) t24 (Or.inl (by decide)) e25
            cases hf
            exact F26
set_option maxRecDepth 10000 in
set_option maxHeartbeats 2000000 in
theorem pX6_followName_fr {P : Nat → Prop} {g : MT} {h : CT} {this : Nat} {p1 : Int32} {r9 : Int32} {h9 : CT} (hc : Cl P h) (P_this : P this) (hf : pX6_followName g h this p1 = some (r9, h9)) : FrC P [(2, 1), (2, 2), (2, 3), (2, 4)] g h h9 := by
  have F0 : FrC P [(2, 1), (2, 2), (2, 3), (2, 4)] g h h := FrC.rf hc
  unfold pX6_followName at hf
  replace hf := tg_i hf; obtain ⟨t1, hf⟩ := hf
  by_cases c2 : p1 = 115
  · rw [if_pos c2] at hf
    replace hf := bd_i hf; obtain ⟨x4, q3, hf⟩ := hf
    exact pX6_followName_b24_fr t1 P_this F0 hf
  · rw [if_neg c2] at hf
    replace hf := bd_i hf; obtain ⟨x2, q4, hf⟩ := hf
    exact pX6_followName_b24_fr t1 P_this F0 hf
set_option maxRecDepth 10000 in
set_option maxHeartbeats 2000000 in
theorem pX6_followNumber_b24_fr {P : Nat → Prop} {g : MT} {this : Nat} {p1 : Int32} {k24 : Int32 → Int32 → CT → Option ((Int32) × CT)} {l2 : Int32} {l3 : Int32} {h : CT} {h0 : CT} {r9 : Int32} {h9 : CT} (t0 : gT g this = 5) (P_this : P this) (hk24 : ∀ (v0 : Int32) (v1 : Int32) (v2 : CT), FrC P [(2, 5), (2, 6), (2, 7)] g h0 v2 → k24 v0 v1 v2 = some (r9, h9) → FrC P [(2, 5), (2, 6), (2, 7)] g h0 h9) (F0 : FrC P [(2, 5), (2, 6), (2, 7)] g h0 h) (hf : pX6_followNumber_b24 g this p1 k24 l2 l3 h = some (r9, h9)) : FrC P [(2, 5), (2, 6), (2, 7)] g h0 h9 := by
  unfold pX6_followNumber_b24 at hf
  by_cases c1 : (hI h this 5) ≤ l3
  · rw [if_pos c1] at hf
    by_cases c2 : l2 ≤ (pX6_mostFor p1)
    · rw [if_pos c2] at hf
      by_cases c3 : p1 = 112
      · rw [if_pos c3] at hf
        obtain ⟨r11, e4⟩ : ∃ z, z = (hR h this 8) := ⟨_, rfl⟩; replace hf := lt_i hf r11 e4
        replace hf := nn_i hf; obtain ⟨a11, e5, hf⟩ := hf
        replace hf := tg_i hf; obtain ⟨t6, hf⟩ := hf
        obtain ⟨h13, e7⟩ : ∃ z, z = (sI h a11 5 l2) := ⟨_, rfl⟩; replace hf := lt_i hf h13 e7
        have F8 := FrC.sI F0 ((fun b hb => F0.1 _ _ b P_this (e4.symm.trans hb)) _ e5) t6 (Or.inl (by decide)) e7
        cases hf
        exact F8
      · rw [if_neg c3] at hf
        by_cases c9 : p1 = 121
        · rw [if_pos c9] at hf
          obtain ⟨r8, e10⟩ : ∃ z, z = (hR h this 8) := ⟨_, rfl⟩; replace hf := lt_i hf r8 e10
          replace hf := nn_i hf; obtain ⟨a8, e11, hf⟩ := hf
          replace hf := tg_i hf; obtain ⟨t12, hf⟩ := hf
          obtain ⟨h10, e13⟩ : ∃ z, z = (sI h a8 6 l2) := ⟨_, rfl⟩; replace hf := lt_i hf h10 e13
          have F14 := FrC.sI F0 ((fun b hb => F0.1 _ _ b P_this (e10.symm.trans hb)) _ e11) t12 (Or.inl (by decide)) e13
          cases hf
          exact F14
        · rw [if_neg c9] at hf
          obtain ⟨r5, e15⟩ : ∃ z, z = (hR h this 8) := ⟨_, rfl⟩; replace hf := lt_i hf r5 e15
          replace hf := nn_i hf; obtain ⟨a5, e16, hf⟩ := hf
          replace hf := tg_i hf; obtain ⟨t17, hf⟩ := hf
          obtain ⟨h7, e18⟩ : ∃ z, z = (sI h a5 7 l2) := ⟨_, rfl⟩; replace hf := lt_i hf h7 e18
          have F19 := FrC.sI F0 ((fun b hb => F0.1 _ _ b P_this (e15.symm.trans hb)) _ e16) t17 (Or.inl (by decide)) e18
          cases hf
          exact F19
    · rw [if_neg c2] at hf
      cases hf
      exact F0
  · rw [if_neg c1] at hf
    obtain ⟨r14, e20⟩ : ∃ z, z = (hR h this 2) := ⟨_, rfl⟩; replace hf := lt_i hf r14 e20
    replace hf := nn_i hf; obtain ⟨a14, e21, hf⟩ := hf
    replace hf := tg_i hf; obtain ⟨t22, hf⟩ := hf
    replace hf := (ix_i hf).2
    obtain ⟨x17, e23⟩ : ∃ z, z = ((l2 * 10) + ((hI h a14 (Int32.toNatClampNeg l3)) - 48)) := ⟨_, rfl⟩; replace hf := lt_i hf x17 e23
    obtain ⟨x18, e24⟩ : ∃ z, z = (l3 + 1) := ⟨_, rfl⟩; replace hf := lt_i hf x18 e24
    exact hk24 _ _ _ F0 hf
set_option maxRecDepth 10000 in
set_option maxHeartbeats 2000000 in
theorem pX6_followNumber_l24_fr {P : Nat → Prop} {g : MT} {this : Nat} {p1 : Int32} {h0 : CT} {r9 : Int32} {h9 : CT} (t0 : gT g this = 5) (P_this : P this) : ∀ (n : Nat) (v1 : Int32) (v2 : Int32) (v3 : CT), FrC P [(2, 5), (2, 6), (2, 7)] g h0 v3 → pX6_followNumber_l24 g this p1 n v1 v2 v3 = some (r9, h9) → FrC P [(2, 5), (2, 6), (2, 7)] g h0 h9 := by
  intro n
  induction n with
  | zero => intro v1 v2 v3 F0 hf; cases hf
  | succ n ih => intro v1 v2 v3 F0 hf; exact pX6_followNumber_b24_fr t0 P_this ih F0 hf
set_option maxRecDepth 10000 in
set_option maxHeartbeats 2000000 in
theorem pX6_followNumber_fr {P : Nat → Prop} {g : MT} {h : CT} {this : Nat} {p1 : Int32} {r9 : Int32} {h9 : CT} (hc : Cl P h) (P_this : P this) (hf : pX6_followNumber g h this p1 = some (r9, h9)) : FrC P [(2, 5), (2, 6), (2, 7)] g h h9 := by
  have F0 : FrC P [(2, 5), (2, 6), (2, 7)] g h h := FrC.rf hc
  unfold pX6_followNumber at hf
  replace hf := tg_i hf; obtain ⟨t1, hf⟩ := hf
  by_cases c2 : (hI h this 6) = 2
  · rw [if_pos c2] at hf
    obtain ⟨r2, e3⟩ : ∃ z, z = (hR h this 8) := ⟨_, rfl⟩; replace hf := lt_i hf r2 e3
    by_cases c4 : r2 = none
    · rw [if_pos c4] at hf
      cases hf
      exact F0
    · rw [if_neg c4] at hf
      obtain ⟨x4, e5⟩ : ∃ z, z = (hI h this 4) := ⟨_, rfl⟩; replace hf := lt_i hf x4 e5
      exact pX6_followNumber_l24_fr t1 P_this _ _ _ _ F0 hf
  · rw [if_neg c2] at hf
    cases hf
    exact F0
set_option maxRecDepth 10000 in
set_option maxHeartbeats 2000000 in
theorem pX9_behind_fr {P : Nat → Prop} {E : EC} {g : MT} {h : CT} {this : Nat} {p1 : Int32} {p2 : Nat} {r9 : Int32} {h9 : CT} (PE : PEc P E) (hc : Cl P h) (P_this : P this) (P_p2 : P p2) (hf : pX9_behind E g h this p1 p2 = some (r9, h9)) : FrC P [(3, 5), (8, 7), (8, 8), (8, 9), (8, 6006)] g h h9 := by
  have F0 : FrC P [(3, 5), (8, 7), (8, 8), (8, 9), (8, 6006)] g h h := FrC.rf hc
  unfold pX9_behind at hf
  replace hf := tg_i hf; obtain ⟨t1, hf⟩ := hf
  replace hf := tg_i hf; obtain ⟨t2, hf⟩ := hf
  obtain ⟨r2, e3⟩ : ∃ z, z = (hR h p2 0) := ⟨_, rfl⟩; replace hf := lt_i hf r2 e3
  replace hf := kR_i hf; obtain ⟨a3, e4, hf⟩ := hf
  by_cases c5 : r2 = (some a3)
  · rw [if_pos c5] at hf
    replace hf := bd2_i hf; obtain ⟨x10, h8, q6, hf⟩ := hf
    have F7 := FrC.trans F0 (pX9_beginStrip_fr F0.1 P_this P_p2 q6) (by decide)
    cases hf
    exact F7
  · rw [if_neg c5] at hf
    obtain ⟨r5, e8⟩ : ∃ z, z = (hR h p2 0) := ⟨_, rfl⟩; replace hf := lt_i hf r5 e8
    replace hf := kR_i hf; obtain ⟨a6, e9, hf⟩ := hf
    by_cases c10 : r5 = (some a6)
    · rw [if_pos c10] at hf
      cases hf
      exact F0
    · rw [if_neg c10] at hf
      cases hf
      exact F0
set_option maxRecDepth 10000 in
set_option maxHeartbeats 2000000 in
theorem pX9_doFold_b97_fr {P : Nat → Prop} {E : EC} {g : MT} {this : Nat} {p1 : Int32} {p2 : Nat} {l3 : Int32} {s0 : Nat} {r81 : Option Nat} {s2 : Int32} {s3 : Int32} {h : CT} {h0 : CT} {r9 : Int32} {h9 : CT} (t0 : gT g this = 8) (PE : PEc P E) (P_this : P this) (P_p2 : P p2) (P_s0 : P s0) (P_r81 : ∀ b, r81 = some b → P b) (F0 : FrC P [(4, 1), (4, 4000), (9, 0), (9, 3), (9, 4), (9, 5), (9, 9), (20, 1000), (22, 5000), (24, 1000)] g h0 h) (hf : pX9_doFold_b97 E g this p1 p2 l3 s0 r81 s2 s3 h = some (r9, h9)) : FrC P [(4, 1), (4, 4000), (9, 0), (9, 3), (9, 4), (9, 5), (9, 9), (20, 1000), (22, 5000), (24, 1000)] g h0 h9 := by
  unfold pX9_doFold_b97 at hf
  obtain ⟨r1, e1⟩ : ∃ z, z = (hR h this 2) := ⟨_, rfl⟩; replace hf := lt_i hf r1 e1
  replace hf := tg_i hf; obtain ⟨t2, hf⟩ := hf
  replace hf := nn_i hf; obtain ⟨a81, e3, hf⟩ := hf
  replace hf := nn_i hf; obtain ⟨a1, e4, hf⟩ := hf
  replace hf := bd_i hf; obtain ⟨h3, q5, hf⟩ := hf
  have F6 := FrC.trans F0 (pX9_halve_fr F0.1 P_s0 (P_r81 _ e3) ((fun b hb => F0.1 _ _ b P_this (e1.symm.trans hb)) _ e4) q5) (by decide)
  obtain ⟨r5, e7⟩ : ∃ z, z = (hR h3 this 4) := ⟨_, rfl⟩; replace hf := lt_i hf r5 e7
  replace hf := nn_i hf; obtain ⟨a5, e8, hf⟩ := hf
  replace hf := tg_i hf; obtain ⟨t9, hf⟩ := hf
  obtain ⟨r7, e10⟩ : ∃ z, z = (hR h3 a5 2) := ⟨_, rfl⟩; replace hf := lt_i hf r7 e10
  replace hf := tg_i hf; obtain ⟨t11, hf⟩ := hf
  obtain ⟨r9, e12⟩ : ∃ z, z = (hR h3 this 2) := ⟨_, rfl⟩; replace hf := lt_i hf r9 e12
  replace hf := nn_i hf; obtain ⟨a7, e13, hf⟩ := hf
  replace hf := tg_i hf; obtain ⟨t14, hf⟩ := hf
  replace hf := nn_i hf; obtain ⟨a9, e15, hf⟩ := hf
  replace hf := bd_i hf; obtain ⟨h11, q16, hf⟩ := hf
  have F17 := FrC.trans F6 (pX8_keep_fr F6.1 ((fun b hb => F6.1 _ _ b ((fun b hb => F6.1 _ _ b P_this (e7.symm.trans hb)) _ e8) (e10.symm.trans hb)) _ e13) ((fun b hb => F6.1 _ _ b P_this (e12.symm.trans hb)) _ e15) q16) (by decide)
  obtain ⟨r13, e18⟩ : ∃ z, z = (hR h11 this 5) := ⟨_, rfl⟩; replace hf := lt_i hf r13 e18
  obtain ⟨r14, e19⟩ : ∃ z, z = (hR h11 this 4) := ⟨_, rfl⟩; replace hf := lt_i hf r14 e19
  replace hf := nn_i hf; obtain ⟨a14, e20, hf⟩ := hf
  replace hf := tg_i hf; obtain ⟨t21, hf⟩ := hf
  replace hf := nn_i hf; obtain ⟨a13, e22, hf⟩ := hf
  replace hf := tg_i hf; obtain ⟨t23, hf⟩ := hf
  replace hf := bd_i hf; obtain ⟨h17, q24, hf⟩ := hf
  have F25 := FrC.trans F17 (pX10_fold_fr F17.1 ((fun b hb => F17.1 _ _ b P_this (e18.symm.trans hb)) _ e22) P_p2 q24) (by decide)
  cases hf
  exact F25
set_option maxRecDepth 10000 in
set_option maxHeartbeats 2000000 in
theorem pX9_doFold_b43_fr {P : Nat → Prop} {E : EC} {g : MT} {this : Nat} {p1 : Int32} {p2 : Nat} {k43 : Int32 → Int32 → CT → Option ((Int32) × CT)} {l3 : Int32} {l4 : Int32} {h : CT} {h0 : CT} {r9 : Int32} {h9 : CT} (t0 : gT g this = 8) (PE : PEc P E) (P_this : P this) (P_p2 : P p2) (hk43 : ∀ (v0 : Int32) (v1 : Int32) (v2 : CT), FrC P [(4, 1), (4, 4000), (9, 0), (9, 3), (9, 4), (9, 5), (9, 9), (20, 1000), (22, 5000), (24, 1000)] g h0 v2 → k43 v0 v1 v2 = some (r9, h9) → FrC P [(4, 1), (4, 4000), (9, 0), (9, 3), (9, 4), (9, 5), (9, 9), (20, 1000), (22, 5000), (24, 1000)] g h0 h9) (F0 : FrC P [(4, 1), (4, 4000), (9, 0), (9, 3), (9, 4), (9, 5), (9, 9), (20, 1000), (22, 5000), (24, 1000)] g h0 h) (hf : pX9_doFold_b43 E g this p1 p2 k43 l3 l4 h = some (r9, h9)) : FrC P [(4, 1), (4, 4000), (9, 0), (9, 3), (9, 4), (9, 5), (9, 9), (20, 1000), (22, 5000), (24, 1000)] g h0 h9 := by
  unfold pX9_doFold_b43 at hf
  by_cases c1 : l4 ≤ 1
  · rw [if_pos c1] at hf
    obtain ⟨r2, e2⟩ : ∃ z, z = (hR h this 4) := ⟨_, rfl⟩; replace hf := lt_i hf r2 e2
    replace hf := tg_i hf; obtain ⟨t3, hf⟩ := hf
    replace hf := nn_i hf; obtain ⟨a2, e4, hf⟩ := hf
    replace hf := tg_i hf; obtain ⟨t5, hf⟩ := hf
    replace hf := bd_i hf; obtain ⟨r5, q6, hf⟩ := hf
    obtain ⟨r7, e7⟩ : ∃ z, z = (hR h this 4) := ⟨_, rfl⟩; replace hf := lt_i hf r7 e7
    replace hf := nn_i hf; obtain ⟨a7, e8, hf⟩ := hf
    replace hf := tg_i hf; obtain ⟨t9, hf⟩ := hf
    obtain ⟨r9, e10⟩ : ∃ z, z = (hR h p2 0) := ⟨_, rfl⟩; replace hf := lt_i hf r9 e10
    replace hf := kR_i hf; obtain ⟨a10, e11, hf⟩ := hf
    by_cases c12 : r9 = (some a10)
    · rw [if_pos c12] at hf
      exact pX9_doFold_b97_fr t0 PE P_this P_p2 P_this (pX3_rowAt_fr F0.1 ((fun b hb => F0.1 _ _ b P_this (e2.symm.trans hb)) _ e4) q6) F0 hf
    · rw [if_neg c12] at hf
      exact pX9_doFold_b97_fr t0 PE P_this P_p2 P_this (pX3_rowAt_fr F0.1 ((fun b hb => F0.1 _ _ b P_this (e2.symm.trans hb)) _ e4) q6) F0 hf
  · rw [if_neg c1] at hf
    obtain ⟨x12, e13⟩ : ∃ z, z = (l3 + 1) := ⟨_, rfl⟩; replace hf := lt_i hf x12 e13
    obtain ⟨x13, e14⟩ : ∃ z, z = ((l4 + 1) / 2) := ⟨_, rfl⟩; replace hf := lt_i hf x13 e14
    exact hk43 _ _ _ F0 hf
set_option maxRecDepth 10000 in
set_option maxHeartbeats 2000000 in
theorem pX9_doFold_l43_fr {P : Nat → Prop} {E : EC} {g : MT} {this : Nat} {p1 : Int32} {p2 : Nat} {h0 : CT} {r9 : Int32} {h9 : CT} (t0 : gT g this = 8) (PE : PEc P E) (P_this : P this) (P_p2 : P p2) : ∀ (n : Nat) (v1 : Int32) (v2 : Int32) (v3 : CT), FrC P [(4, 1), (4, 4000), (9, 0), (9, 3), (9, 4), (9, 5), (9, 9), (20, 1000), (22, 5000), (24, 1000)] g h0 v3 → pX9_doFold_l43 E g this p1 p2 n v1 v2 v3 = some (r9, h9) → FrC P [(4, 1), (4, 4000), (9, 0), (9, 3), (9, 4), (9, 5), (9, 9), (20, 1000), (22, 5000), (24, 1000)] g h0 h9 := by
  intro n
  induction n with
  | zero => intro v1 v2 v3 F0 hf; cases hf
  | succ n ih => intro v1 v2 v3 F0 hf; exact pX9_doFold_b43_fr t0 PE P_this P_p2 ih F0 hf
set_option maxRecDepth 10000 in
set_option maxHeartbeats 2000000 in
theorem pX9_doFold_b32_fr {P : Nat → Prop} {E : EC} {g : MT} {this : Nat} {p1 : Int32} {p2 : Nat} {h : CT} {h0 : CT} {r9 : Int32} {h9 : CT} (t0 : gT g this = 8) (PE : PEc P E) (P_this : P this) (P_p2 : P p2) (F0 : FrC P [(4, 1), (4, 4000), (9, 0), (9, 3), (9, 4), (9, 5), (9, 9), (20, 1000), (22, 5000), (24, 1000)] g h0 h) (hf : pX9_doFold_b32 E g this p1 p2 h = some (r9, h9)) : FrC P [(4, 1), (4, 4000), (9, 0), (9, 3), (9, 4), (9, 5), (9, 9), (20, 1000), (22, 5000), (24, 1000)] g h0 h9 := by
  unfold pX9_doFold_b32 at hf
  obtain ⟨r1, e1⟩ : ∃ z, z = (hR h this 4) := ⟨_, rfl⟩; replace hf := lt_i hf r1 e1
  replace hf := nn_i hf; obtain ⟨a1, e2, hf⟩ := hf
  replace hf := tg_i hf; obtain ⟨t3, hf⟩ := hf
  obtain ⟨x3, e4⟩ : ∃ z, z = (hI h a1 5) := ⟨_, rfl⟩; replace hf := lt_i hf x3 e4
  exact pX9_doFold_l43_fr t0 PE P_this P_p2 _ _ _ _ F0 hf
set_option maxRecDepth 10000 in
set_option maxHeartbeats 2000000 in
theorem pX9_doFold_fr {P : Nat → Prop} {E : EC} {g : MT} {h : CT} {this : Nat} {p1 : Int32} {p2 : Nat} {r9 : Int32} {h9 : CT} (PE : PEc P E) (hc : Cl P h) (P_this : P this) (P_p2 : P p2) (hf : pX9_doFold E g h this p1 p2 = some (r9, h9)) : FrC P [(4, 1), (4, 4000), (9, 0), (9, 3), (9, 4), (9, 5), (9, 9), (20, 1000), (22, 5000), (24, 1000)] g h h9 := by
  have F0 : FrC P [(4, 1), (4, 4000), (9, 0), (9, 3), (9, 4), (9, 5), (9, 9), (20, 1000), (22, 5000), (24, 1000)] g h h := FrC.rf hc
  unfold pX9_doFold at hf
  replace hf := tg_i hf; obtain ⟨t1, hf⟩ := hf
  obtain ⟨r1, e2⟩ : ∃ z, z = (hR h this 4) := ⟨_, rfl⟩; replace hf := lt_i hf r1 e2
  replace hf := nn_i hf; obtain ⟨a1, e3, hf⟩ := hf
  replace hf := tg_i hf; obtain ⟨t4, hf⟩ := hf
  by_cases c5 : (hI h a1 5) ≤ 0
  · rw [if_pos c5] at hf
    exact pX9_doFold_b32_fr t1 PE P_this P_p2 F0 hf
  · rw [if_neg c5] at hf
    obtain ⟨r4, e6⟩ : ∃ z, z = (hR h this 4) := ⟨_, rfl⟩; replace hf := lt_i hf r4 e6
    replace hf := tg_i hf; obtain ⟨t7, hf⟩ := hf
    replace hf := nn_i hf; obtain ⟨a4, e8, hf⟩ := hf
    replace hf := tg_i hf; obtain ⟨t9, hf⟩ := hf
    replace hf := bd_i hf; obtain ⟨x7, q10, hf⟩ := hf
    by_cases c11 : x7 = 0
    · rw [if_pos c11] at hf
      exact pX9_doFold_b32_fr t1 PE P_this P_p2 F0 hf
    · rw [if_neg c11] at hf
      replace hf := bd2_i hf; obtain ⟨x12, h10, q12, hf⟩ := hf
      have F13 := FrC.trans F0 (pX9_trap_fr F0.1 P_this q12) (by decide)
      replace hf := (bz_i hf).2
      cases hf
      exact F13
set_option maxRecDepth 10000 in
set_option maxHeartbeats 2000000 in
theorem pX9_doElement_b120_fr {P : Nat → Prop} {E : EC} {g : MT} {this : Nat} {p1 : Nat} {p2 : Int32} {p3 : Int32} {h : CT} {h0 : CT} {h9 : CT} (t0 : gT g this = 8) (PE : PEc P E) (P_this : P this) (P_p1 : P p1) (F0 : FrC P [(1, 4), (1, 2003), (3, 4), (4, 1), (4, 4000), (8, 10), (22, 5000), (24, 1000)] g h0 h) (hf : pX9_doElement_b120 E g this p1 p2 p3 h = some h9) : FrC P [(1, 4), (1, 2003), (3, 4), (4, 1), (4, 4000), (8, 10), (22, 5000), (24, 1000)] g h0 h9 := by
  unfold pX9_doElement_b120 at hf
  obtain ⟨r1, e1⟩ : ∃ z, z = (hR h this 4) := ⟨_, rfl⟩; replace hf := lt_i hf r1 e1
  replace hf := tg_i hf; obtain ⟨t2, hf⟩ := hf
  obtain ⟨r3, e3⟩ : ∃ z, z = (hR h this 2) := ⟨_, rfl⟩; replace hf := lt_i hf r3 e3
  replace hf := nn_i hf; obtain ⟨a1, e4, hf⟩ := hf
  replace hf := tg_i hf; obtain ⟨t5, hf⟩ := hf
  replace hf := nn_i hf; obtain ⟨a3, e6, hf⟩ := hf
  replace hf := bd_i hf; obtain ⟨h5, q7, hf⟩ := hf
  have F8 := FrC.trans F0 (pX3_land_fr F0.1 ((fun b hb => F0.1 _ _ b P_this (e1.symm.trans hb)) _ e4) ((fun b hb => F0.1 _ _ b P_this (e3.symm.trans hb)) _ e6) q7) (by decide)
  cases hf
  exact F8
set_option maxRecDepth 10000 in
set_option maxHeartbeats 2000000 in
theorem pX9_doElement_fr {P : Nat → Prop} {E : EC} {g : MT} {h : CT} {this : Nat} {p1 : Nat} {p2 : Int32} {p3 : Int32} {h9 : CT} (PE : PEc P E) (hc : Cl P h) (P_this : P this) (P_p1 : P p1) (hf : pX9_doElement E g h this p1 p2 p3 = some h9) : FrC P [(1, 4), (1, 2003), (3, 4), (4, 1), (4, 4000), (8, 10), (22, 5000), (24, 1000)] g h h9 := by
  have F0 : FrC P [(1, 4), (1, 2003), (3, 4), (4, 1), (4, 4000), (8, 10), (22, 5000), (24, 1000)] g h h := FrC.rf hc
  unfold pX9_doElement at hf
  replace hf := tg_i hf; obtain ⟨t1, hf⟩ := hf
  replace hf := tg_i hf; obtain ⟨t2, hf⟩ := hf
  obtain ⟨r2, e3⟩ : ∃ z, z = (hR h p1 0) := ⟨_, rfl⟩; replace hf := lt_i hf r2 e3
  replace hf := nn_i hf; obtain ⟨a2, e4, hf⟩ := hf
  replace hf := tg_i hf; obtain ⟨t5, hf⟩ := hf
  replace hf := bd_i hf; obtain ⟨x4, q6, hf⟩ := hf
  by_cases c7 : x4 = 0
  · rw [if_pos c7] at hf
    obtain ⟨r7, e8⟩ : ∃ z, z = (hR h p1 0) := ⟨_, rfl⟩; replace hf := lt_i hf r7 e8
    replace hf := nn_i hf; obtain ⟨a7, e9, hf⟩ := hf
    replace hf := tg_i hf; obtain ⟨t10, hf⟩ := hf
    replace hf := bd_i hf; obtain ⟨x9, q11, hf⟩ := hf
    by_cases c12 : x9 = 0
    · rw [if_pos c12] at hf
      obtain ⟨r12, e13⟩ : ∃ z, z = (hR h p1 0) := ⟨_, rfl⟩; replace hf := lt_i hf r12 e13
      replace hf := kR_i hf; obtain ⟨a13, e14, hf⟩ := hf
      by_cases c15 : r12 = (some a13)
      · rw [if_pos c15] at hf
        replace hf := bd_i hf; obtain ⟨h23, q16, hf⟩ := hf
        have F17 := FrC.trans F0 (pX9_packElement_fr F0.1 P_this P_p1 q16) (by decide)
        cases hf
        exact F17
      · rw [if_neg c15] at hf
        replace hf := bd_i hf; obtain ⟨h15, q18, hf⟩ := hf
        have F19 := FrC.trans F0 (pX9_reckon_fr PE F0.1 P_this P_p1 q18) (by decide)
        by_cases c20 : (hI h15 p1 8) = 0
        · rw [if_pos c20] at hf
          exact pX9_doElement_b120_fr t1 PE P_this P_p1 F19 hf
        · rw [if_neg c20] at hf
          obtain ⟨r18, e21⟩ : ∃ z, z = (hR h15 this 4) := ⟨_, rfl⟩; replace hf := lt_i hf r18 e21
          replace hf := nn_i hf; obtain ⟨a18, e22, hf⟩ := hf
          replace hf := tg_i hf; obtain ⟨t23, hf⟩ := hf
          replace hf := bd_i hf; obtain ⟨x20, q24, hf⟩ := hf
          by_cases c25 : x20 = 0
          · rw [if_pos c25] at hf
            cases hf
            exact F19
          · rw [if_neg c25] at hf
            exact pX9_doElement_b120_fr t1 PE P_this P_p1 F19 hf
    · rw [if_neg c12] at hf
      obtain ⟨r25, e26⟩ : ∃ z, z = (hR h this 4) := ⟨_, rfl⟩; replace hf := lt_i hf r25 e26
      replace hf := bd2_i hf; obtain ⟨x28, h26, q27, hf⟩ := hf
      have F28 := FrC.trans F0 (pX9_holds_fr PE F0.1 P_this P_p1 q27) (by decide)
      replace hf := nn_i hf; obtain ⟨a25, e29, hf⟩ := hf
      replace hf := tg_i hf; obtain ⟨t30, hf⟩ := hf
      replace hf := bd_i hf; obtain ⟨h30, q31, hf⟩ := hf
      have F32 := FrC.trans F28 (pX3_setBit_fr F28.1 ((fun b hb => F0.1 _ _ b P_this (e26.symm.trans hb)) _ e29) q31) (by decide)
      cases hf
      exact F32
  · rw [if_neg c7] at hf
    obtain ⟨r32, e33⟩ : ∃ z, z = (hR h this 4) := ⟨_, rfl⟩; replace hf := lt_i hf r32 e33
    obtain ⟨r33, e34⟩ : ∃ z, z = (hR h this 2) := ⟨_, rfl⟩; replace hf := lt_i hf r33 e34
    replace hf := nn_i hf; obtain ⟨a32, e35, hf⟩ := hf
    replace hf := tg_i hf; obtain ⟨t36, hf⟩ := hf
    replace hf := nn_i hf; obtain ⟨a33, e37, hf⟩ := hf
    replace hf := bd_i hf; obtain ⟨h35, q38, hf⟩ := hf
    have F39 := FrC.trans F0 (pX3_fetch_fr F0.1 ((fun b hb => F0.1 _ _ b P_this (e33.symm.trans hb)) _ e35) ((fun b hb => F0.1 _ _ b P_this (e34.symm.trans hb)) _ e37) q38) (by decide)
    obtain ⟨r37, e40⟩ : ∃ z, z = (hR h35 this 4) := ⟨_, rfl⟩; replace hf := lt_i hf r37 e40
    replace hf := nn_i hf; obtain ⟨a37, e41, hf⟩ := hf
    replace hf := tg_i hf; obtain ⟨t42, hf⟩ := hf
    obtain ⟨r39, e43⟩ : ∃ z, z = (hR h35 a37 3) := ⟨_, rfl⟩; replace hf := lt_i hf r39 e43
    obtain ⟨r40, e44⟩ : ∃ z, z = (hR h35 this 2) := ⟨_, rfl⟩; replace hf := lt_i hf r40 e44
    replace hf := nn_i hf; obtain ⟨a39, e45, hf⟩ := hf
    replace hf := tg_i hf; obtain ⟨t46, hf⟩ := hf
    replace hf := nn_i hf; obtain ⟨a40, e47, hf⟩ := hf
    replace hf := bd_i hf; obtain ⟨h42, q48, hf⟩ := hf
    have F49 := FrC.trans F39 (pX8_keep_fr F39.1 ((fun b hb => F39.1 _ _ b ((fun b hb => F39.1 _ _ b P_this (e40.symm.trans hb)) _ e41) (e43.symm.trans hb)) _ e45) ((fun b hb => F39.1 _ _ b P_this (e44.symm.trans hb)) _ e47) q48) (by decide)
    cases hf
    exact F49
set_option maxRecDepth 10000 in
set_option maxHeartbeats 2000000 in
theorem pX12_tellOf_fr {P : Nat → Prop} {g : MT} {h : CT} {this : Nat} {p1 : Nat} {r9 : Int32} {h9 : CT} (hc : Cl P h) (P_this : P this) (P_p1 : P p1) (hf : pX12_tellOf g h this p1 = some (r9, h9)) : FrC P [(1, 1), (1, 4), (1, 2000), (1, 2003), (11, 19)] g h h9 := by
  have F0 : FrC P [(1, 1), (1, 4), (1, 2000), (1, 2003), (11, 19)] g h h := FrC.rf hc
  unfold pX12_tellOf at hf
  replace hf := tg_i hf; obtain ⟨t1, hf⟩ := hf
  obtain ⟨r1, e2⟩ : ∃ z, z = (hR h this 14) := ⟨_, rfl⟩; replace hf := lt_i hf r1 e2
  replace hf := nn_i hf; obtain ⟨a1, e3, hf⟩ := hf
  replace hf := tg_i hf; obtain ⟨t4, hf⟩ := hf
  replace hf := bd2_i hf; obtain ⟨x5, h3, q5, hf⟩ := hf
  have F6 := FrC.trans F0 (pX1_tellKind_fr F0.1 ((fun b hb => F0.1 _ _ b P_this (e2.symm.trans hb)) _ e3) P_p1 q5) (by decide)
  replace hf := bd2_i hf; obtain ⟨x8, h6, q7, hf⟩ := hf
  have F8 := FrC.trans F6 (pX12_answer_fr F6.1 P_this q7) (by decide)
  cases hf
  exact F8
set_option maxRecDepth 10000 in
set_option maxHeartbeats 2000000 in
theorem pX12_write_fr {P : Nat → Prop} {g : MT} {h : CT} {this : Nat} {p1 : Int32} {p2 : Int32} {p3 : Int64} {r9 : Int32} {h9 : CT} (hc : Cl P h) (P_this : P this) (hf : pX12_write g h this p1 p2 p3 = some (r9, h9)) : FrC P [(11, 19), (21, 3000)] g h h9 := by
  have F0 : FrC P [(11, 19), (21, 3000)] g h h := FrC.rf hc
  unfold pX12_write at hf
  replace hf := tg_i hf; obtain ⟨t1, hf⟩ := hf
  replace hf := bd_i hf; obtain ⟨x1, q2, hf⟩ := hf
  by_cases c3 : x1 = 0
  · rw [if_pos c3] at hf
    obtain ⟨r4, e4⟩ : ∃ z, z = (hR h this 0) := ⟨_, rfl⟩; replace hf := lt_i hf r4 e4
    replace hf := nn_i hf; obtain ⟨a4, e5, hf⟩ := hf
    replace hf := tg_i hf; obtain ⟨t6, hf⟩ := hf
    replace hf := (ix_i hf).2
    obtain ⟨r7, e7⟩ : ∃ z, z = (hR h a4 (Int32.toNatClampNeg p1)) := ⟨_, rfl⟩; replace hf := lt_i hf r7 e7
    replace hf := nn_i hf; obtain ⟨a7, e8, hf⟩ := hf
    replace hf := tg_i hf; obtain ⟨t9, hf⟩ := hf
    replace hf := bd_i hf; obtain ⟨h9, q10, hf⟩ := hf
    have F11 := FrC.trans F0 (pX11_keep_fr F0.1 ((fun b hb => F0.1 _ _ b ((fun b hb => F0.1 _ _ b P_this (e4.symm.trans hb)) _ e5) (e7.symm.trans hb)) _ e8) q10) (by decide)
    replace hf := bd2_i hf; obtain ⟨x13, h11, q12, hf⟩ := hf
    have F13 := FrC.trans F11 (pX12_agree_fr F11.1 P_this q12) (by decide)
    replace hf := (bz_i hf).2
    cases hf
    exact F13
  · rw [if_neg c3] at hf
    replace hf := bd2_i hf; obtain ⟨x17, h15, q14, hf⟩ := hf
    have F15 := FrC.trans F0 (pX12_deny_fr F0.1 P_this q14) (by decide)
    replace hf := (bz_i hf).2
    cases hf
    exact F15
set_option maxRecDepth 10000 in
set_option maxHeartbeats 2000000 in
theorem pX12_feed_fr {P : Nat → Prop} {g : MT} {h : CT} {this : Nat} {p1 : Int32} {p2 : Int32} {p3 : Int32} {p4 : Int32} {p5 : Int32} {r9 : Int32} {h9 : CT} (hc : Cl P h) (P_this : P this) (hf : pX12_feed g h this p1 p2 p3 p4 p5 = some (r9, h9)) : FrC P [(11, 2), (23, 1000)] g h h9 := by
  have F0 : FrC P [(11, 2), (23, 1000)] g h h := FrC.rf hc
  unfold pX12_feed at hf
  replace hf := tg_i hf; obtain ⟨t1, hf⟩ := hf
  by_cases c2 : ((hI h this 2) + 20) ≤ 900
  · rw [if_pos c2] at hf
    replace hf := bd_i hf; obtain ⟨h2, q3, hf⟩ := hf
    have F4 := FrC.trans F0 (pX12_tapeInt_fr F0.1 P_this q3) (by decide)
    replace hf := bd_i hf; obtain ⟨h4, q5, hf⟩ := hf
    have F6 := FrC.trans F4 (pX12_tapeInt_fr F4.1 P_this q5) (by decide)
    replace hf := bd_i hf; obtain ⟨h6, q7, hf⟩ := hf
    have F8 := FrC.trans F6 (pX12_tapeInt_fr F6.1 P_this q7) (by decide)
    replace hf := bd_i hf; obtain ⟨h8, q9, hf⟩ := hf
    have F10 := FrC.trans F8 (pX12_tapeInt_fr F8.1 P_this q9) (by decide)
    replace hf := bd_i hf; obtain ⟨h10, q11, hf⟩ := hf
    have F12 := FrC.trans F10 (pX12_tapeInt_fr F10.1 P_this q11) (by decide)
    cases hf
    exact F12
  · rw [if_neg c2] at hf
    cases hf
    exact F0
set_option maxRecDepth 10000 in
set_option maxHeartbeats 2000000 in
theorem pX12_element_fr {P : Nat → Prop} {g : MT} {h : CT} {this : Nat} {p1 : Int32} {p2 : Int32} {r9 : Int32} {h9 : CT} (hc : Cl P h) (P_this : P this) (hf : pX12_element g h this p1 p2 = some (r9, h9)) : FrC P [(1, 1), (1, 4), (1, 2000), (1, 2003), (4, 1), (4, 4000), (11, 19)] g h h9 := by
  have F0 : FrC P [(1, 1), (1, 4), (1, 2000), (1, 2003), (4, 1), (4, 4000), (11, 19)] g h h := FrC.rf hc
  unfold pX12_element at hf
  replace hf := tg_i hf; obtain ⟨t1, hf⟩ := hf
  by_cases c2 : (pX12_within p2 0 15) = 0
  · rw [if_pos c2] at hf
    replace hf := bd2_i hf; obtain ⟨x24, h22, q3, hf⟩ := hf
    have F4 := FrC.trans F0 (pX12_refuse_fr F0.1 P_this q3) (by decide)
    cases hf
    exact F4
  · rw [if_neg c2] at hf
    replace hf := bd_i hf; obtain ⟨x2, q5, hf⟩ := hf
    by_cases c6 : x2 = 0
    · rw [if_pos c6] at hf
      obtain ⟨r5, e7⟩ : ∃ z, z = (hR h this 4) := ⟨_, rfl⟩; replace hf := lt_i hf r5 e7
      replace hf := nn_i hf; obtain ⟨a5, e8, hf⟩ := hf
      replace hf := tg_i hf; obtain ⟨t9, hf⟩ := hf
      obtain ⟨r7, e10⟩ : ∃ z, z = (hR h a5 0) := ⟨_, rfl⟩; replace hf := lt_i hf r7 e10
      replace hf := nn_i hf; obtain ⟨a7, e11, hf⟩ := hf
      replace hf := tg_i hf; obtain ⟨t12, hf⟩ := hf
      replace hf := (ix_i hf).2
      obtain ⟨r10, e13⟩ : ∃ z, z = (hR h a7 (Int32.toNatClampNeg p1)) := ⟨_, rfl⟩; replace hf := lt_i hf r10 e13
      obtain ⟨r11, e14⟩ : ∃ z, z = (hR h this 15) := ⟨_, rfl⟩; replace hf := lt_i hf r11 e14
      replace hf := nn_i hf; obtain ⟨a10, e15, hf⟩ := hf
      replace hf := tg_i hf; obtain ⟨t16, hf⟩ := hf
      replace hf := nn_i hf; obtain ⟨a11, e17, hf⟩ := hf
      replace hf := bd_i hf; obtain ⟨h13, q18, hf⟩ := hf
      have F19 := FrC.trans F0 (pX8_fetch_fr F0.1 ((fun b hb => F0.1 _ _ b ((fun b hb => F0.1 _ _ b ((fun b hb => F0.1 _ _ b P_this (e7.symm.trans hb)) _ e8) (e10.symm.trans hb)) _ e11) (e13.symm.trans hb)) _ e15) ((fun b hb => F0.1 _ _ b P_this (e14.symm.trans hb)) _ e17) q18) (by decide)
      obtain ⟨r15, e20⟩ : ∃ z, z = (hR h13 this 15) := ⟨_, rfl⟩; replace hf := lt_i hf r15 e20
      replace hf := nn_i hf; obtain ⟨a15, e21, hf⟩ := hf
      replace hf := bd2_i hf; obtain ⟨x18, h16, q22, hf⟩ := hf
      have F23 := FrC.trans F19 (pX12_tellOf_fr F19.1 P_this ((fun b hb => F19.1 _ _ b P_this (e20.symm.trans hb)) _ e21) q22) (by decide)
      cases hf
      exact F23
    · rw [if_neg c6] at hf
      replace hf := bd2_i hf; obtain ⟨x21, h19, q24, hf⟩ := hf
      have F25 := FrC.trans F0 (pX12_refuse_fr F0.1 P_this q24) (by decide)
      cases hf
      exact F25
set_option maxRecDepth 10000 in
set_option maxHeartbeats 2000000 in
theorem pX12_scalar_fr {P : Nat → Prop} {g : MT} {h : CT} {this : Nat} {p1 : Int32} {r9 : Int32} {h9 : CT} (hc : Cl P h) (P_this : P this) (hf : pX12_scalar g h this p1 = some (r9, h9)) : FrC P [(1, 1), (1, 4), (1, 2000), (1, 2003), (4, 1), (4, 4000), (11, 19)] g h h9 := by
  have F0 : FrC P [(1, 1), (1, 4), (1, 2000), (1, 2003), (4, 1), (4, 4000), (11, 19)] g h h := FrC.rf hc
  unfold pX12_scalar at hf
  replace hf := tg_i hf; obtain ⟨t1, hf⟩ := hf
  by_cases c2 : (pX12_within p1 0 3) = 0
  · rw [if_pos c2] at hf
    replace hf := bd2_i hf; obtain ⟨x15, h13, q3, hf⟩ := hf
    have F4 := FrC.trans F0 (pX12_refuse_fr F0.1 P_this q3) (by decide)
    cases hf
    exact F4
  · rw [if_neg c2] at hf
    obtain ⟨r2, e5⟩ : ∃ z, z = (hR h this 4) := ⟨_, rfl⟩; replace hf := lt_i hf r2 e5
    replace hf := nn_i hf; obtain ⟨a2, e6, hf⟩ := hf
    replace hf := tg_i hf; obtain ⟨t7, hf⟩ := hf
    obtain ⟨r4, e8⟩ : ∃ z, z = (hR h a2 2) := ⟨_, rfl⟩; replace hf := lt_i hf r4 e8
    obtain ⟨r5, e9⟩ : ∃ z, z = (hR h this 15) := ⟨_, rfl⟩; replace hf := lt_i hf r5 e9
    replace hf := nn_i hf; obtain ⟨a4, e10, hf⟩ := hf
    replace hf := tg_i hf; obtain ⟨t11, hf⟩ := hf
    replace hf := nn_i hf; obtain ⟨a5, e12, hf⟩ := hf
    replace hf := bd_i hf; obtain ⟨h7, q13, hf⟩ := hf
    have F14 := FrC.trans F0 (pX8_fetch_fr F0.1 ((fun b hb => F0.1 _ _ b ((fun b hb => F0.1 _ _ b P_this (e5.symm.trans hb)) _ e6) (e8.symm.trans hb)) _ e10) ((fun b hb => F0.1 _ _ b P_this (e9.symm.trans hb)) _ e12) q13) (by decide)
    obtain ⟨r9, e15⟩ : ∃ z, z = (hR h7 this 15) := ⟨_, rfl⟩; replace hf := lt_i hf r9 e15
    replace hf := nn_i hf; obtain ⟨a9, e16, hf⟩ := hf
    replace hf := bd2_i hf; obtain ⟨x12, h10, q17, hf⟩ := hf
    have F18 := FrC.trans F14 (pX12_tellOf_fr F14.1 P_this ((fun b hb => F14.1 _ _ b P_this (e15.symm.trans hb)) _ e16) q17) (by decide)
    cases hf
    exact F18
set_option maxRecDepth 10000 in
set_option maxHeartbeats 2000000 in
theorem pX12_word_fr {P : Nat → Prop} {g : MT} {h : CT} {this : Nat} {p1 : Int32} {r9 : Int32} {h9 : CT} (hc : Cl P h) (P_this : P this) (hf : pX12_word g h this p1 = some (r9, h9)) : FrC P [(1, 1), (1, 4), (1, 2000), (1, 2003), (4, 1), (4, 4000), (11, 19)] g h h9 := by
  have F0 : FrC P [(1, 1), (1, 4), (1, 2000), (1, 2003), (4, 1), (4, 4000), (11, 19)] g h h := FrC.rf hc
  unfold pX12_word at hf
  replace hf := tg_i hf; obtain ⟨t1, hf⟩ := hf
  by_cases c2 : (pX12_isWord p1) = 0
  · rw [if_pos c2] at hf
    replace hf := bd2_i hf; obtain ⟨x15, h13, q3, hf⟩ := hf
    have F4 := FrC.trans F0 (pX12_refuse_fr F0.1 P_this q3) (by decide)
    cases hf
    exact F4
  · rw [if_neg c2] at hf
    obtain ⟨r2, e5⟩ : ∃ z, z = (hR h this 4) := ⟨_, rfl⟩; replace hf := lt_i hf r2 e5
    replace hf := nn_i hf; obtain ⟨a2, e6, hf⟩ := hf
    replace hf := tg_i hf; obtain ⟨t7, hf⟩ := hf
    obtain ⟨r4, e8⟩ : ∃ z, z = (hR h a2 3) := ⟨_, rfl⟩; replace hf := lt_i hf r4 e8
    obtain ⟨r5, e9⟩ : ∃ z, z = (hR h this 15) := ⟨_, rfl⟩; replace hf := lt_i hf r5 e9
    replace hf := nn_i hf; obtain ⟨a4, e10, hf⟩ := hf
    replace hf := tg_i hf; obtain ⟨t11, hf⟩ := hf
    replace hf := nn_i hf; obtain ⟨a5, e12, hf⟩ := hf
    replace hf := bd_i hf; obtain ⟨h7, q13, hf⟩ := hf
    have F14 := FrC.trans F0 (pX8_fetch_fr F0.1 ((fun b hb => F0.1 _ _ b ((fun b hb => F0.1 _ _ b P_this (e5.symm.trans hb)) _ e6) (e8.symm.trans hb)) _ e10) ((fun b hb => F0.1 _ _ b P_this (e9.symm.trans hb)) _ e12) q13) (by decide)
    obtain ⟨r9, e15⟩ : ∃ z, z = (hR h7 this 15) := ⟨_, rfl⟩; replace hf := lt_i hf r9 e15
    replace hf := nn_i hf; obtain ⟨a9, e16, hf⟩ := hf
    replace hf := bd2_i hf; obtain ⟨x12, h10, q17, hf⟩ := hf
    have F18 := FrC.trans F14 (pX12_tellOf_fr F14.1 P_this ((fun b hb => F14.1 _ _ b P_this (e15.symm.trans hb)) _ e16) q17) (by decide)
    cases hf
    exact F18
set_option maxRecDepth 10000 in
set_option maxHeartbeats 2000000 in
theorem pX12_put_b19_fr {P : Nat → Prop} {g : MT} {this : Nat} {p1 : Int32} {p2 : Int32} {p3 : Int64} {p5 : Int32} {h : CT} {h0 : CT} {r9 : Int32} {h9 : CT} (t0 : gT g this = 11) (P_this : P this) (F0 : FrC P [(1, 1), (1, 4), (1, 2000), (1, 2003), (4, 1), (4, 4000), (11, 19), (22, 5000), (24, 1000)] g h0 h) (hf : pX12_put_b19 g this p1 p2 p3 p5 h = some (r9, h9)) : FrC P [(1, 1), (1, 4), (1, 2000), (1, 2003), (4, 1), (4, 4000), (11, 19), (22, 5000), (24, 1000)] g h0 h9 := by
  unfold pX12_put_b19 at hf
  replace hf := bd2_i hf; obtain ⟨x3, h1, q1, hf⟩ := hf
  have F2 := FrC.trans F0 (pX12_refuse_fr F0.1 P_this q1) (by decide)
  cases hf
  exact F2
set_option maxRecDepth 10000 in
set_option maxHeartbeats 2000000 in
theorem pX12_put_fr {P : Nat → Prop} {g : MT} {h : CT} {this : Nat} {p1 : Int32} {p2 : Int32} {p3 : Int64} {p5 : Int32} {r9 : Int32} {h9 : CT} (hc : Cl P h) (P_this : P this) (hf : pX12_put g h this p1 p2 p3 p5 = some (r9, h9)) : FrC P [(1, 1), (1, 4), (1, 2000), (1, 2003), (4, 1), (4, 4000), (11, 19), (22, 5000), (24, 1000)] g h h9 := by
  have F0 : FrC P [(1, 1), (1, 4), (1, 2000), (1, 2003), (4, 1), (4, 4000), (11, 19), (22, 5000), (24, 1000)] g h h := FrC.rf hc
  unfold pX12_put at hf
  replace hf := tg_i hf; obtain ⟨t1, hf⟩ := hf
  by_cases c2 : (pX12_within p1 0 5) = 0
  · rw [if_pos c2] at hf
    exact pX12_put_b19_fr t1 P_this F0 hf
  · rw [if_neg c2] at hf
    by_cases c3 : (pX12_within p2 0 15) = 0
    · rw [if_pos c3] at hf
      exact pX12_put_b19_fr t1 P_this F0 hf
    · rw [if_neg c3] at hf
      by_cases c4 : (pX12_isNumber p3 p5) = 0
      · rw [if_pos c4] at hf
        replace hf := bd2_i hf; obtain ⟨x23, h21, q5, hf⟩ := hf
        have F6 := FrC.trans F0 (pX12_refuse_fr F0.1 P_this q5) (by decide)
        cases hf
        exact F6
      · rw [if_neg c4] at hf
        obtain ⟨r4, e7⟩ : ∃ z, z = (hR h this 15) := ⟨_, rfl⟩; replace hf := lt_i hf r4 e7
        obtain ⟨r5, e8⟩ : ∃ z, z = (hR h this 14) := ⟨_, rfl⟩; replace hf := lt_i hf r5 e8
        replace hf := nn_i hf; obtain ⟨a5, e9, hf⟩ := hf
        replace hf := tg_i hf; obtain ⟨t10, hf⟩ := hf
        replace hf := bd_i hf; obtain ⟨x7, q11, hf⟩ := hf
        replace hf := nn_i hf; obtain ⟨a4, e12, hf⟩ := hf
        replace hf := tg_i hf; obtain ⟨t13, hf⟩ := hf
        replace hf := bd_i hf; obtain ⟨h10, q14, hf⟩ := hf
        have F15 := FrC.trans F0 (pX4_set_fr F0.1 ((fun b hb => F0.1 _ _ b P_this (e7.symm.trans hb)) _ e12) q14) (by decide)
        obtain ⟨r12, e16⟩ : ∃ z, z = (hR h10 this 4) := ⟨_, rfl⟩; replace hf := lt_i hf r12 e16
        obtain ⟨r13, e17⟩ : ∃ z, z = (hR h10 this 15) := ⟨_, rfl⟩; replace hf := lt_i hf r13 e17
        replace hf := nn_i hf; obtain ⟨a12, e18, hf⟩ := hf
        replace hf := tg_i hf; obtain ⟨t19, hf⟩ := hf
        replace hf := nn_i hf; obtain ⟨a13, e20, hf⟩ := hf
        replace hf := bd_i hf; obtain ⟨h15, q21, hf⟩ := hf
        have F22 := FrC.trans F15 (pX3_land_fr F15.1 ((fun b hb => F15.1 _ _ b P_this (e16.symm.trans hb)) _ e18) ((fun b hb => F15.1 _ _ b P_this (e17.symm.trans hb)) _ e20) q21) (by decide)
        obtain ⟨r17, e23⟩ : ∃ z, z = (hR h15 this 15) := ⟨_, rfl⟩; replace hf := lt_i hf r17 e23
        replace hf := nn_i hf; obtain ⟨a17, e24, hf⟩ := hf
        replace hf := bd2_i hf; obtain ⟨x20, h18, q25, hf⟩ := hf
        have F26 := FrC.trans F22 (pX12_tellOf_fr F22.1 P_this ((fun b hb => F22.1 _ _ b P_this (e23.symm.trans hb)) _ e24) q25) (by decide)
        cases hf
        exact F26
set_option maxRecDepth 10000 in
set_option maxHeartbeats 2000000 in
theorem pX12_placeNumber_fr {P : Nat → Prop} {g : MT} {h : CT} {this : Nat} {p1 : Nat} {p2 : Int32} {p3 : Int64} {p5 : Int32} {r9 : Int32} {h9 : CT} (hc : Cl P h) (P_this : P this) (P_p1 : P p1) (hf : pX12_placeNumber g h this p1 p2 p3 p5 = some (r9, h9)) : FrC P [(1, 1), (1, 4), (1, 2000), (1, 2003), (4, 1), (4, 4000), (11, 19), (22, 5000), (24, 1000)] g h h9 := by
  have F0 : FrC P [(1, 1), (1, 4), (1, 2000), (1, 2003), (4, 1), (4, 4000), (11, 19), (22, 5000), (24, 1000)] g h h := FrC.rf hc
  unfold pX12_placeNumber at hf
  replace hf := tg_i hf; obtain ⟨t1, hf⟩ := hf
  by_cases c2 : (pX12_isNumber p3 p5) = 0
  · rw [if_pos c2] at hf
    replace hf := bd2_i hf; obtain ⟨x20, h18, q3, hf⟩ := hf
    have F4 := FrC.trans F0 (pX12_refuse_fr F0.1 P_this q3) (by decide)
    cases hf
    exact F4
  · rw [if_neg c2] at hf
    obtain ⟨r2, e5⟩ : ∃ z, z = (hR h this 15) := ⟨_, rfl⟩; replace hf := lt_i hf r2 e5
    obtain ⟨r3, e6⟩ : ∃ z, z = (hR h this 14) := ⟨_, rfl⟩; replace hf := lt_i hf r3 e6
    replace hf := nn_i hf; obtain ⟨a3, e7, hf⟩ := hf
    replace hf := tg_i hf; obtain ⟨t8, hf⟩ := hf
    replace hf := bd_i hf; obtain ⟨x5, q9, hf⟩ := hf
    replace hf := nn_i hf; obtain ⟨a2, e10, hf⟩ := hf
    replace hf := tg_i hf; obtain ⟨t11, hf⟩ := hf
    replace hf := bd_i hf; obtain ⟨h8, q12, hf⟩ := hf
    have F13 := FrC.trans F0 (pX4_set_fr F0.1 ((fun b hb => F0.1 _ _ b P_this (e5.symm.trans hb)) _ e10) q12) (by decide)
    obtain ⟨r10, e14⟩ : ∃ z, z = (hR h8 this 15) := ⟨_, rfl⟩; replace hf := lt_i hf r10 e14
    replace hf := tg_i hf; obtain ⟨t15, hf⟩ := hf
    replace hf := nn_i hf; obtain ⟨a10, e16, hf⟩ := hf
    replace hf := bd_i hf; obtain ⟨h12, q17, hf⟩ := hf
    have F18 := FrC.trans F13 (pX8_keep_fr F13.1 P_p1 ((fun b hb => F13.1 _ _ b P_this (e14.symm.trans hb)) _ e16) q17) (by decide)
    obtain ⟨r14, e19⟩ : ∃ z, z = (hR h12 this 15) := ⟨_, rfl⟩; replace hf := lt_i hf r14 e19
    replace hf := nn_i hf; obtain ⟨a14, e20, hf⟩ := hf
    replace hf := bd2_i hf; obtain ⟨x17, h15, q21, hf⟩ := hf
    have F22 := FrC.trans F18 (pX12_tellOf_fr F18.1 P_this ((fun b hb => F18.1 _ _ b P_this (e19.symm.trans hb)) _ e20) q21) (by decide)
    cases hf
    exact F22
set_option maxRecDepth 10000 in
set_option maxHeartbeats 2000000 in
theorem pX12_strange_fr {P : Nat → Prop} {g : MT} {h : CT} {this : Nat} {p1 : Int32} {p2 : Int32} {r9 : Int32} {h9 : CT} (hc : Cl P h) (P_this : P this) (hf : pX12_strange g h this p1 p2 = some (r9, h9)) : FrC P [(4, 1), (4, 4000), (11, 19), (22, 5000), (24, 1000)] g h h9 := by
  have F0 : FrC P [(4, 1), (4, 4000), (11, 19), (22, 5000), (24, 1000)] g h h := FrC.rf hc
  unfold pX12_strange at hf
  replace hf := tg_i hf; obtain ⟨t1, hf⟩ := hf
  by_cases c2 : (pX12_isWord p1) = 0
  · rw [if_pos c2] at hf
    replace hf := bd2_i hf; obtain ⟨x33, h31, q3, hf⟩ := hf
    have F4 := FrC.trans F0 (pX12_refuse_fr F0.1 P_this q3) (by decide)
    cases hf
    exact F4
  · rw [if_neg c2] at hf
    by_cases c5 : (pX12_within p2 1 5) = 0
    · rw [if_pos c5] at hf
      replace hf := bd2_i hf; obtain ⟨x30, h28, q6, hf⟩ := hf
      have F7 := FrC.trans F0 (pX12_refuse_fr F0.1 P_this q6) (by decide)
      cases hf
      exact F7
    · rw [if_neg c5] at hf
      obtain ⟨r3, e8⟩ : ∃ z, z = (hR h this 4) := ⟨_, rfl⟩; replace hf := lt_i hf r3 e8
      replace hf := nn_i hf; obtain ⟨a3, e9, hf⟩ := hf
      replace hf := tg_i hf; obtain ⟨t10, hf⟩ := hf
      obtain ⟨r5, e11⟩ : ∃ z, z = (hR h a3 3) := ⟨_, rfl⟩; replace hf := lt_i hf r5 e11
      obtain ⟨r6, e12⟩ : ∃ z, z = (hR h this 17) := ⟨_, rfl⟩; replace hf := lt_i hf r6 e12
      replace hf := nn_i hf; obtain ⟨a5, e13, hf⟩ := hf
      replace hf := tg_i hf; obtain ⟨t14, hf⟩ := hf
      replace hf := nn_i hf; obtain ⟨a6, e15, hf⟩ := hf
      replace hf := bd_i hf; obtain ⟨h8, q16, hf⟩ := hf
      have F17 := FrC.trans F0 (pX8_fetch_fr F0.1 ((fun b hb => F0.1 _ _ b ((fun b hb => F0.1 _ _ b P_this (e8.symm.trans hb)) _ e9) (e11.symm.trans hb)) _ e13) ((fun b hb => F0.1 _ _ b P_this (e12.symm.trans hb)) _ e15) q16) (by decide)
      obtain ⟨r10, e18⟩ : ∃ z, z = (hR h8 this 17) := ⟨_, rfl⟩; replace hf := lt_i hf r10 e18
      replace hf := nn_i hf; obtain ⟨a10, e19, hf⟩ := hf
      replace hf := tg_i hf; obtain ⟨t20, hf⟩ := hf
      replace hf := bd_i hf; obtain ⟨x12, q21, hf⟩ := hf
      obtain ⟨r14, e22⟩ : ∃ z, z = (hR h8 this 17) := ⟨_, rfl⟩; replace hf := lt_i hf r14 e22
      replace hf := nn_i hf; obtain ⟨a14, e23, hf⟩ := hf
      replace hf := tg_i hf; obtain ⟨t24, hf⟩ := hf
      replace hf := bd_i hf; obtain ⟨h16, q25, hf⟩ := hf
      have F26 := FrC.trans F17 (pX4_setKind_fr F17.1 ((fun b hb => F17.1 _ _ b P_this (e22.symm.trans hb)) _ e23) q25) (by decide)
      obtain ⟨r18, e27⟩ : ∃ z, z = (hR h16 this 4) := ⟨_, rfl⟩; replace hf := lt_i hf r18 e27
      replace hf := nn_i hf; obtain ⟨a18, e28, hf⟩ := hf
      replace hf := tg_i hf; obtain ⟨t29, hf⟩ := hf
      obtain ⟨r20, e30⟩ : ∃ z, z = (hR h16 a18 3) := ⟨_, rfl⟩; replace hf := lt_i hf r20 e30
      obtain ⟨r21, e31⟩ : ∃ z, z = (hR h16 this 17) := ⟨_, rfl⟩; replace hf := lt_i hf r21 e31
      replace hf := nn_i hf; obtain ⟨a20, e32, hf⟩ := hf
      replace hf := tg_i hf; obtain ⟨t33, hf⟩ := hf
      replace hf := nn_i hf; obtain ⟨a21, e34, hf⟩ := hf
      replace hf := bd_i hf; obtain ⟨h23, q35, hf⟩ := hf
      have F36 := FrC.trans F26 (pX8_keep_fr F26.1 ((fun b hb => F26.1 _ _ b ((fun b hb => F26.1 _ _ b P_this (e27.symm.trans hb)) _ e28) (e30.symm.trans hb)) _ e32) ((fun b hb => F26.1 _ _ b P_this (e31.symm.trans hb)) _ e34) q35) (by decide)
      replace hf := bd2_i hf; obtain ⟨x27, h25, q37, hf⟩ := hf
      have F38 := FrC.trans F36 (pX12_answer_fr F36.1 P_this q37) (by decide)
      cases hf
      exact F38
set_option maxRecDepth 10000 in
set_option maxHeartbeats 2000000 in
theorem pX12_peekAll_b24_fr {P : Nat → Prop} {g : MT} {this : Nat} {p1 : Int32} {p2 : Int32} {p3 : Int32} {k24 : Int32 → CT → Option ((Int32) × CT)} {l5 : Int32} {h : CT} {h0 : CT} {r9 : Int32} {h9 : CT} (t0 : gT g this = 11) (P_this : P this) (hk24 : ∀ (v0 : Int32) (v1 : CT), FrC P [(4, 1), (4, 4000), (11, 19), (21, 3000)] g h0 v1 → k24 v0 v1 = some (r9, h9) → FrC P [(4, 1), (4, 4000), (11, 19), (21, 3000)] g h0 h9) (F0 : FrC P [(4, 1), (4, 4000), (11, 19), (21, 3000)] g h0 h) (hf : pX12_peekAll_b24 g this p1 p2 p3 k24 l5 h = some (r9, h9)) : FrC P [(4, 1), (4, 4000), (11, 19), (21, 3000)] g h0 h9 := by
  unfold pX12_peekAll_b24 at hf
  by_cases c1 : p3 ≤ l5
  · rw [if_pos c1] at hf
    replace hf := bd2_i hf; obtain ⟨x4, h2, q2, hf⟩ := hf
    have F3 := FrC.trans F0 (pX12_answer_fr F0.1 P_this q2) (by decide)
    cases hf
    exact F3
  · rw [if_neg c1] at hf
    obtain ⟨r5, e4⟩ : ∃ z, z = (hR h this 4) := ⟨_, rfl⟩; replace hf := lt_i hf r5 e4
    replace hf := nn_i hf; obtain ⟨a5, e5, hf⟩ := hf
    replace hf := tg_i hf; obtain ⟨t6, hf⟩ := hf
    obtain ⟨r7, e7⟩ : ∃ z, z = (hR h a5 3) := ⟨_, rfl⟩; replace hf := lt_i hf r7 e7
    obtain ⟨r8, e8⟩ : ∃ z, z = (hR h this 17) := ⟨_, rfl⟩; replace hf := lt_i hf r8 e8
    replace hf := nn_i hf; obtain ⟨a7, e9, hf⟩ := hf
    replace hf := tg_i hf; obtain ⟨t10, hf⟩ := hf
    replace hf := nn_i hf; obtain ⟨a8, e11, hf⟩ := hf
    replace hf := bd_i hf; obtain ⟨h10, q12, hf⟩ := hf
    have F13 := FrC.trans F0 (pX8_fetch_fr F0.1 ((fun b hb => F0.1 _ _ b ((fun b hb => F0.1 _ _ b P_this (e4.symm.trans hb)) _ e5) (e7.symm.trans hb)) _ e9) ((fun b hb => F0.1 _ _ b P_this (e8.symm.trans hb)) _ e11) q12) (by decide)
    obtain ⟨r12, e14⟩ : ∃ z, z = (hR h10 this 0) := ⟨_, rfl⟩; replace hf := lt_i hf r12 e14
    replace hf := nn_i hf; obtain ⟨a12, e15, hf⟩ := hf
    replace hf := tg_i hf; obtain ⟨t16, hf⟩ := hf
    replace hf := (ix_i hf).2
    obtain ⟨r15, e17⟩ : ∃ z, z = (hR h10 a12 (Int32.toNatClampNeg p2)) := ⟨_, rfl⟩; replace hf := lt_i hf r15 e17
    obtain ⟨r16, e18⟩ : ∃ z, z = (hR h10 this 17) := ⟨_, rfl⟩; replace hf := lt_i hf r16 e18
    replace hf := nn_i hf; obtain ⟨a16, e19, hf⟩ := hf
    replace hf := tg_i hf; obtain ⟨t20, hf⟩ := hf
    replace hf := bd_i hf; obtain ⟨x18, q21, hf⟩ := hf
    replace hf := nn_i hf; obtain ⟨a15, e22, hf⟩ := hf
    replace hf := tg_i hf; obtain ⟨t23, hf⟩ := hf
    replace hf := bd_i hf; obtain ⟨h21, q24, hf⟩ := hf
    have F25 := FrC.trans F13 (pX11_keep_fr F13.1 ((fun b hb => F13.1 _ _ b ((fun b hb => F13.1 _ _ b P_this (e14.symm.trans hb)) _ e15) (e17.symm.trans hb)) _ e22) q24) (by decide)
    obtain ⟨x23, e26⟩ : ∃ z, z = (l5 + 1) := ⟨_, rfl⟩; replace hf := lt_i hf x23 e26
    exact hk24 _ _ F25 hf
set_option maxRecDepth 10000 in
set_option maxHeartbeats 2000000 in
theorem pX12_peekAll_l24_fr {P : Nat → Prop} {g : MT} {this : Nat} {p1 : Int32} {p2 : Int32} {p3 : Int32} {h0 : CT} {r9 : Int32} {h9 : CT} (t0 : gT g this = 11) (P_this : P this) : ∀ (n : Nat) (v1 : Int32) (v2 : CT), FrC P [(4, 1), (4, 4000), (11, 19), (21, 3000)] g h0 v2 → pX12_peekAll_l24 g this p1 p2 p3 n v1 v2 = some (r9, h9) → FrC P [(4, 1), (4, 4000), (11, 19), (21, 3000)] g h0 h9 := by
  intro n
  induction n with
  | zero => intro v1 v2 F0 hf; cases hf
  | succ n ih => intro v1 v2 F0 hf; exact pX12_peekAll_b24_fr t0 P_this ih F0 hf
set_option maxRecDepth 10000 in
set_option maxHeartbeats 2000000 in
theorem pX12_peekAll_fr {P : Nat → Prop} {g : MT} {h : CT} {this : Nat} {p1 : Int32} {p2 : Int32} {p3 : Int32} {r9 : Int32} {h9 : CT} (hc : Cl P h) (P_this : P this) (hf : pX12_peekAll g h this p1 p2 p3 = some (r9, h9)) : FrC P [(4, 1), (4, 4000), (11, 19), (21, 3000)] g h h9 := by
  have F0 : FrC P [(4, 1), (4, 4000), (11, 19), (21, 3000)] g h h := FrC.rf hc
  unfold pX12_peekAll at hf
  replace hf := tg_i hf; obtain ⟨t1, hf⟩ := hf
  replace hf := bd_i hf; obtain ⟨x1, q2, hf⟩ := hf
  by_cases c3 : x1 = 0
  · rw [if_pos c3] at hf
    exact pX12_peekAll_l24_fr t1 P_this _ _ _ F0 hf
  · rw [if_neg c3] at hf
    replace hf := bd2_i hf; obtain ⟨x6, h4, q4, hf⟩ := hf
    have F5 := FrC.trans F0 (pX12_refuse_fr F0.1 P_this q4) (by decide)
    cases hf
    exact F5
set_option maxRecDepth 10000 in
set_option maxHeartbeats 2000000 in
theorem pX12_sum_fr {P : Nat → Prop} {g : MT} {h : CT} {this : Nat} {p1 : Int32} {p2 : Int32} {r9 : Int32} {h9 : CT} (hc : Cl P h) (P_this : P this) (hf : pX12_sum g h this p1 p2 = some (r9, h9)) : FrC P [(1, 1), (1, 4), (1, 2000), (1, 2003), (4, 1), (4, 4000), (11, 19), (22, 5000), (24, 1000)] g h h9 := by
  have F0 : FrC P [(1, 1), (1, 4), (1, 2000), (1, 2003), (4, 1), (4, 4000), (11, 19), (22, 5000), (24, 1000)] g h h := FrC.rf hc
  unfold pX12_sum at hf
  replace hf := tg_i hf; obtain ⟨t1, hf⟩ := hf
  replace hf := bd_i hf; obtain ⟨x1, q2, hf⟩ := hf
  by_cases c3 : x1 = 0
  · rw [if_pos c3] at hf
    by_cases c4 : (pX12_within p2 0 2) = 0
    · rw [if_pos c4] at hf
      replace hf := bd2_i hf; obtain ⟨x14, h12, q5, hf⟩ := hf
      have F6 := FrC.trans F0 (pX12_refuse_fr F0.1 P_this q5) (by decide)
      cases hf
      exact F6
    · rw [if_neg c4] at hf
      obtain ⟨r5, e7⟩ : ∃ z, z = (hR h this 15) := ⟨_, rfl⟩; replace hf := lt_i hf r5 e7
      replace hf := nn_i hf; obtain ⟨a5, e8, hf⟩ := hf
      replace hf := bd_i hf; obtain ⟨h6, q9, hf⟩ := hf
      have F10 := FrC.trans F0 (pX12_sumInto_fr F0.1 P_this ((fun b hb => F0.1 _ _ b P_this (e7.symm.trans hb)) _ e8) q9) (by decide)
      obtain ⟨r8, e11⟩ : ∃ z, z = (hR h6 this 15) := ⟨_, rfl⟩; replace hf := lt_i hf r8 e11
      replace hf := nn_i hf; obtain ⟨a8, e12, hf⟩ := hf
      replace hf := bd2_i hf; obtain ⟨x11, h9, q13, hf⟩ := hf
      have F14 := FrC.trans F10 (pX12_tellOf_fr F10.1 P_this ((fun b hb => F10.1 _ _ b P_this (e11.symm.trans hb)) _ e12) q13) (by decide)
      cases hf
      exact F14
  · rw [if_neg c3] at hf
    replace hf := bd2_i hf; obtain ⟨x17, h15, q15, hf⟩ := hf
    have F16 := FrC.trans F0 (pX12_refuse_fr F0.1 P_this q15) (by decide)
    cases hf
    exact F16
set_option maxRecDepth 10000 in
set_option maxHeartbeats 2000000 in
theorem pX6_follow_b95_fr {P : Nat → Prop} {E : EC} {g : MT} {this : Nat} {l1 : Int32} {h : CT} {h0 : CT} {r9 : Int32} {h9 : CT} (t0 : gT g this = 5) (PE : PEc P E) (P_this : P this) (F0 : FrC P [(2, 1), (2, 2), (2, 3), (2, 4), (2, 5), (2, 6), (2, 7), (2, 8), (5, 10)] g h0 h) (hf : pX6_follow_b95 E g this l1 h = some (r9, h9)) : FrC P [(2, 1), (2, 2), (2, 3), (2, 4), (2, 5), (2, 6), (2, 7), (2, 8), (5, 10)] g h0 h9 := by
  unfold pX6_follow_b95 at hf
  by_cases c1 : l1 = 42
  · rw [if_pos c1] at hf
    replace hf := kR_i hf; obtain ⟨a2, e2, hf⟩ := hf
    replace hf := bd2_i hf; obtain ⟨x5, h3, q3, hf⟩ := hf
    have F4 := FrC.trans F0 (pX6_isText_fr PE F0.1 P_this (PE.1 _ _ (by decide) e2) q3) (by decide)
    by_cases c5 : x5 = 0
    · rw [if_pos c5] at hf
      cases hf
      exact F4
    · rw [if_neg c5] at hf
      cases hf
      exact F4
  · rw [if_neg c1] at hf
    by_cases c6 : l1 = 59
    · rw [if_pos c6] at hf
      by_cases c7 : (hI h this 6) = 3
      · rw [if_pos c7] at hf
        cases hf
        exact F0
      · rw [if_neg c7] at hf
        cases hf
        exact F0
    · rw [if_neg c6] at hf
      by_cases c8 : l1 = 64
      · rw [if_pos c8] at hf
        replace hf := kR_i hf; obtain ⟨a10, e9, hf⟩ := hf
        replace hf := bd2_i hf; obtain ⟨x13, h11, q10, hf⟩ := hf
        have F11 := FrC.trans F0 (pX6_isText_fr PE F0.1 P_this (PE.1 _ _ (by decide) e9) q10) (by decide)
        by_cases c12 : x13 = 0
        · rw [if_pos c12] at hf
          cases hf
          exact F11
        · rw [if_neg c12] at hf
          cases hf
          exact F11
      · rw [if_neg c8] at hf
        by_cases c13 : l1 = 97
        · rw [if_pos c13] at hf
          replace hf := bd2_i hf; obtain ⟨x18, h16, q14, hf⟩ := hf
          have F15 := FrC.trans F0 (pX6_followName_fr F0.1 P_this q14) (by decide)
          cases hf
          exact F15
        · rw [if_neg c13] at hf
          by_cases c16 : l1 = 98
          · rw [if_pos c16] at hf
            replace hf := bd2_i hf; obtain ⟨x22, h20, q17, hf⟩ := hf
            have F18 := FrC.trans F0 (pX6_followName_fr F0.1 P_this q17) (by decide)
            cases hf
            exact F18
          · rw [if_neg c16] at hf
            by_cases c19 : l1 = 100
            · rw [if_pos c19] at hf
              replace hf := bd2_i hf; obtain ⟨x26, h24, q20, hf⟩ := hf
              have F21 := FrC.trans F0 (pX6_followName_fr F0.1 P_this q20) (by decide)
              cases hf
              exact F21
            · rw [if_neg c19] at hf
              by_cases c22 : l1 = 102
              · rw [if_pos c22] at hf
                replace hf := kR_i hf; obtain ⟨a28, e23, hf⟩ := hf
                replace hf := bd2_i hf; obtain ⟨x31, h29, q24, hf⟩ := hf
                have F25 := FrC.trans F0 (pX6_isText_fr PE F0.1 P_this (PE.1 _ _ (by decide) e23) q24) (by decide)
                by_cases c26 : x31 = 0
                · rw [if_pos c26] at hf
                  cases hf
                  exact F25
                · rw [if_neg c26] at hf
                  cases hf
                  exact F25
              · rw [if_neg c22] at hf
                by_cases c27 : l1 = 115
                · rw [if_pos c27] at hf
                  replace hf := bd2_i hf; obtain ⟨x36, h34, q28, hf⟩ := hf
                  have F29 := FrC.trans F0 (pX6_followName_fr F0.1 P_this q28) (by decide)
                  cases hf
                  exact F29
                · rw [if_neg c27] at hf
                  replace hf := bd2_i hf; obtain ⟨x39, h37, q30, hf⟩ := hf
                  have F31 := FrC.trans F0 (pX6_followNumber_fr F0.1 P_this q30) (by decide)
                  cases hf
                  exact F31
set_option maxRecDepth 10000 in
set_option maxHeartbeats 2000000 in
theorem pX6_follow_b84_fr {P : Nat → Prop} {E : EC} {g : MT} {this : Nat} {s0 : Int32} {h : CT} {h0 : CT} {r9 : Int32} {h9 : CT} (t0 : gT g this = 5) (PE : PEc P E) (P_this : P this) (F0 : FrC P [(2, 1), (2, 2), (2, 3), (2, 4), (2, 5), (2, 6), (2, 7), (2, 8), (5, 10)] g h0 h) (hf : pX6_follow_b84 E g this s0 h = some (r9, h9)) : FrC P [(2, 1), (2, 2), (2, 3), (2, 4), (2, 5), (2, 6), (2, 7), (2, 8), (5, 10)] g h0 h9 := by
  unfold pX6_follow_b84 at hf
  obtain ⟨h1, e1⟩ : ∃ z, z = (sI h this 10 ((hI h this 10) + 1)) := ⟨_, rfl⟩; replace hf := lt_i hf h1 e1
  have F2 := FrC.sI F0 P_this t0 (Or.inl (by decide)) e1
  exact pX6_follow_b95_fr t0 PE P_this F2 hf
set_option maxRecDepth 10000 in
set_option maxHeartbeats 2000000 in
theorem pX6_follow_b54_fr {P : Nat → Prop} {E : EC} {g : MT} {this : Nat} {h : CT} {h0 : CT} {r9 : Int32} {h9 : CT} (t0 : gT g this = 5) (PE : PEc P E) (P_this : P this) (F0 : FrC P [(2, 1), (2, 2), (2, 3), (2, 4), (2, 5), (2, 6), (2, 7), (2, 8), (5, 10)] g h0 h) (hf : pX6_follow_b54 E g this h = some (r9, h9)) : FrC P [(2, 1), (2, 2), (2, 3), (2, 4), (2, 5), (2, 6), (2, 7), (2, 8), (5, 10)] g h0 h9 := by
  unfold pX6_follow_b54 at hf
  obtain ⟨r1, e1⟩ : ∃ z, z = (hR h this 9) := ⟨_, rfl⟩; replace hf := lt_i hf r1 e1
  replace hf := nn_i hf; obtain ⟨a1, e2, hf⟩ := hf
  replace hf := tg_i hf; obtain ⟨t3, hf⟩ := hf
  replace hf := bd_i hf; obtain ⟨x3, q4, hf⟩ := hf
  by_cases c5 : x3 ≤ (hI h this 10)
  · rw [if_pos c5] at hf
    exact pX6_follow_b84_fr t0 PE P_this F0 hf
  · rw [if_neg c5] at hf
    obtain ⟨r6, e6⟩ : ∃ z, z = (hR h this 9) := ⟨_, rfl⟩; replace hf := lt_i hf r6 e6
    replace hf := nn_i hf; obtain ⟨a6, e7, hf⟩ := hf
    replace hf := tg_i hf; obtain ⟨t8, hf⟩ := hf
    replace hf := bd2_i hf; obtain ⟨x10, h8, q9, hf⟩ := hf
    have F10 := FrC.trans F0 (pJ0_charAt_5068e_fr PE F0.1 ((fun b hb => F0.1 _ _ b P_this (e6.symm.trans hb)) _ e7) q9) (by decide)
    exact pX6_follow_b84_fr t0 PE P_this F10 hf
set_option maxRecDepth 10000 in
set_option maxHeartbeats 2000000 in
theorem pX6_follow_fr {P : Nat → Prop} {E : EC} {g : MT} {h : CT} {this : Nat} {r9 : Int32} {h9 : CT} (PE : PEc P E) (hc : Cl P h) (P_this : P this) (hf : pX6_follow E g h this = some (r9, h9)) : FrC P [(2, 1), (2, 2), (2, 3), (2, 4), (2, 5), (2, 6), (2, 7), (2, 8), (5, 10)] g h h9 := by
  have F0 : FrC P [(2, 1), (2, 2), (2, 3), (2, 4), (2, 5), (2, 6), (2, 7), (2, 8), (5, 10)] g h h := FrC.rf hc
  unfold pX6_follow at hf
  replace hf := tg_i hf; obtain ⟨t1, hf⟩ := hf
  obtain ⟨r1, e2⟩ : ∃ z, z = (hR h this 9) := ⟨_, rfl⟩; replace hf := lt_i hf r1 e2
  replace hf := nn_i hf; obtain ⟨a1, e3, hf⟩ := hf
  replace hf := tg_i hf; obtain ⟨t4, hf⟩ := hf
  replace hf := bd2_i hf; obtain ⟨x5, h3, q5, hf⟩ := hf
  have F6 := FrC.trans F0 (pJ0_charAt_5068e_fr PE F0.1 ((fun b hb => F0.1 _ _ b P_this (e2.symm.trans hb)) _ e3) q5) (by decide)
  obtain ⟨h6, e7⟩ : ∃ z, z = (sI h3 this 10 ((hI h3 this 10) + 1)) := ⟨_, rfl⟩; replace hf := lt_i hf h6 e7
  have F8 := FrC.sI F6 P_this t1 (Or.inl (by decide)) e7
  by_cases c9 : x5 = 109
  · rw [if_pos c9] at hf
    replace hf := kR_i hf; obtain ⟨a8, e10, hf⟩ := hf
    replace hf := bd2_i hf; obtain ⟨x11, h9, q11, hf⟩ := hf
    have F12 := FrC.trans F8 (pX6_isText_fr PE F8.1 P_this (PE.1 _ _ (by decide) e10) q11) (by decide)
    by_cases c13 : x11 = 0
    · rw [if_pos c13] at hf
      exact pX6_follow_b54_fr t1 PE P_this F12 hf
    · rw [if_neg c13] at hf
      obtain ⟨r13, e14⟩ : ∃ z, z = (hR h9 this 8) := ⟨_, rfl⟩; replace hf := lt_i hf r13 e14
      by_cases c15 : r13 = none
      · rw [if_pos c15] at hf
        exact pX6_follow_b54_fr t1 PE P_this F12 hf
      · rw [if_neg c15] at hf
        obtain ⟨r15, e16⟩ : ∃ z, z = (hR h9 this 8) := ⟨_, rfl⟩; replace hf := lt_i hf r15 e16
        replace hf := nn_i hf; obtain ⟨a15, e17, hf⟩ := hf
        replace hf := tg_i hf; obtain ⟨t18, hf⟩ := hf
        obtain ⟨h17, e19⟩ : ∃ z, z = (sI h9 a15 8 1) := ⟨_, rfl⟩; replace hf := lt_i hf h17 e19
        have F20 := FrC.sI F12 ((fun b hb => F12.1 _ _ b P_this (e16.symm.trans hb)) _ e17) t18 (Or.inl (by decide)) e19
        cases hf
        exact F20
  · rw [if_neg c9] at hf
    exact pX6_follow_b95_fr t1 PE P_this F8 hf
set_option maxRecDepth 10000 in
set_option maxHeartbeats 2000000 in
theorem pX9_doAtOnce_fr {P : Nat → Prop} {E : EC} {g : MT} {h : CT} {this : Nat} {p1 : Int32} {p2 : Nat} {r9 : Int32} {h9 : CT} (PE : PEc P E) (hc : Cl P h) (P_this : P this) (P_p2 : P p2) (hf : pX9_doAtOnce E g h this p1 p2 = some (r9, h9)) : FrC P [(3, 4), (3, 5), (4, 1), (4, 4000), (9, 0), (9, 3), (9, 4), (9, 5), (9, 9), (9, 11), (9, 12), (20, 1000), (22, 5000), (24, 1000)] g h h9 := by
  have F0 : FrC P [(3, 4), (3, 5), (4, 1), (4, 4000), (9, 0), (9, 3), (9, 4), (9, 5), (9, 9), (9, 11), (9, 12), (20, 1000), (22, 5000), (24, 1000)] g h h := FrC.rf hc
  unfold pX9_doAtOnce at hf
  replace hf := tg_i hf; obtain ⟨t1, hf⟩ := hf
  replace hf := kR_i hf; obtain ⟨a1, e2, hf⟩ := hf
  replace hf := tg_i hf; obtain ⟨t3, hf⟩ := hf
  obtain ⟨r3, e4⟩ : ∃ z, z = (hR h p2 0) := ⟨_, rfl⟩; replace hf := lt_i hf r3 e4
  replace hf := nn_i hf; obtain ⟨a3, e5, hf⟩ := hf
  replace hf := tg_i hf; obtain ⟨t6, hf⟩ := hf
  replace hf := bd_i hf; obtain ⟨x5, q7, hf⟩ := hf
  replace hf := tg_i hf; obtain ⟨t8, hf⟩ := hf
  replace hf := (ix_i hf).2
  obtain ⟨x9, e9⟩ : ∃ z, z = (hI E.2.1 a1 (Int32.toNatClampNeg x5)) := ⟨_, rfl⟩; replace hf := lt_i hf x9 e9
  by_cases c10 : x9 = 1
  · rw [if_pos c10] at hf
    obtain ⟨r11, e11⟩ : ∃ z, z = (hR h this 4) := ⟨_, rfl⟩; replace hf := lt_i hf r11 e11
    replace hf := nn_i hf; obtain ⟨a11, e12, hf⟩ := hf
    replace hf := tg_i hf; obtain ⟨t13, hf⟩ := hf
    obtain ⟨h13, e14⟩ : ∃ z, z = (sI h a11 5 (hI h p2 7)) := ⟨_, rfl⟩; replace hf := lt_i hf h13 e14
    have F15 := FrC.sI F0 ((fun b hb => F0.1 _ _ b P_this (e11.symm.trans hb)) _ e12) t13 (Or.inl (by decide)) e14
    cases hf
    exact F15
  · rw [if_neg c10] at hf
    by_cases c16 : x9 = 2
    · rw [if_pos c16] at hf
      obtain ⟨r15, e17⟩ : ∃ z, z = (hR h this 4) := ⟨_, rfl⟩; replace hf := lt_i hf r15 e17
      replace hf := nn_i hf; obtain ⟨a15, e18, hf⟩ := hf
      replace hf := tg_i hf; obtain ⟨t19, hf⟩ := hf
      obtain ⟨r17, e20⟩ : ∃ z, z = (hR h this 4) := ⟨_, rfl⟩; replace hf := lt_i hf r17 e20
      replace hf := nn_i hf; obtain ⟨a17, e21, hf⟩ := hf
      replace hf := tg_i hf; obtain ⟨t22, hf⟩ := hf
      replace hf := bd_i hf; obtain ⟨x19, q23, hf⟩ := hf
      obtain ⟨h21, e24⟩ : ∃ z, z = (sI h a15 4 ((hI h a15 4) ^^^ x19)) := ⟨_, rfl⟩; replace hf := lt_i hf h21 e24
      have F25 := FrC.sI F0 ((fun b hb => F0.1 _ _ b P_this (e17.symm.trans hb)) _ e18) t19 (Or.inl (by decide)) e24
      obtain ⟨r22, e26⟩ : ∃ z, z = (hR h21 this 5) := ⟨_, rfl⟩; replace hf := lt_i hf r22 e26
      replace hf := nn_i hf; obtain ⟨a22, e27, hf⟩ := hf
      replace hf := tg_i hf; obtain ⟨t28, hf⟩ := hf
      replace hf := bd_i hf; obtain ⟨h24, q29, hf⟩ := hf
      have F30 := FrC.trans F25 (pX10_flip_fr F25.1 ((fun b hb => F25.1 _ _ b P_this (e26.symm.trans hb)) _ e27) q29) (by decide)
      cases hf
      exact F30
    · rw [if_neg c16] at hf
      by_cases c31 : x9 = 3
      · rw [if_pos c31] at hf
        obtain ⟨r27, e32⟩ : ∃ z, z = (hR h this 2) := ⟨_, rfl⟩; replace hf := lt_i hf r27 e32
        obtain ⟨r28, e33⟩ : ∃ z, z = (hR h this 4) := ⟨_, rfl⟩; replace hf := lt_i hf r28 e33
        replace hf := nn_i hf; obtain ⟨a28, e34, hf⟩ := hf
        replace hf := tg_i hf; obtain ⟨t35, hf⟩ := hf
        obtain ⟨r30, e36⟩ : ∃ z, z = (hR h this 4) := ⟨_, rfl⟩; replace hf := lt_i hf r30 e36
        replace hf := nn_i hf; obtain ⟨a30, e37, hf⟩ := hf
        replace hf := tg_i hf; obtain ⟨t38, hf⟩ := hf
        replace hf := bd_i hf; obtain ⟨x32, q39, hf⟩ := hf
        replace hf := nn_i hf; obtain ⟨a27, e40, hf⟩ := hf
        replace hf := tg_i hf; obtain ⟨t41, hf⟩ := hf
        replace hf := bd_i hf; obtain ⟨h35, q42, hf⟩ := hf
        have F43 := FrC.trans F0 (pX4_set_fr F0.1 ((fun b hb => F0.1 _ _ b P_this (e32.symm.trans hb)) _ e40) q42) (by decide)
        obtain ⟨r37, e44⟩ : ∃ z, z = (hR h35 this 4) := ⟨_, rfl⟩; replace hf := lt_i hf r37 e44
        replace hf := nn_i hf; obtain ⟨a37, e45, hf⟩ := hf
        replace hf := tg_i hf; obtain ⟨t46, hf⟩ := hf
        obtain ⟨r39, e47⟩ : ∃ z, z = (hR h35 a37 2) := ⟨_, rfl⟩; replace hf := lt_i hf r39 e47
        obtain ⟨r40, e48⟩ : ∃ z, z = (hR h35 this 2) := ⟨_, rfl⟩; replace hf := lt_i hf r40 e48
        replace hf := nn_i hf; obtain ⟨a39, e49, hf⟩ := hf
        replace hf := tg_i hf; obtain ⟨t50, hf⟩ := hf
        replace hf := nn_i hf; obtain ⟨a40, e51, hf⟩ := hf
        replace hf := bd_i hf; obtain ⟨h42, q52, hf⟩ := hf
        have F53 := FrC.trans F43 (pX8_keep_fr F43.1 ((fun b hb => F43.1 _ _ b ((fun b hb => F43.1 _ _ b P_this (e44.symm.trans hb)) _ e45) (e47.symm.trans hb)) _ e49) ((fun b hb => F43.1 _ _ b P_this (e48.symm.trans hb)) _ e51) q52) (by decide)
        obtain ⟨r44, e54⟩ : ∃ z, z = (hR h42 this 5) := ⟨_, rfl⟩; replace hf := lt_i hf r44 e54
        replace hf := nn_i hf; obtain ⟨a44, e55, hf⟩ := hf
        replace hf := tg_i hf; obtain ⟨t56, hf⟩ := hf
        replace hf := bd_i hf; obtain ⟨h46, q57, hf⟩ := hf
        have F58 := FrC.trans F53 (pX10_count_fr F53.1 ((fun b hb => F53.1 _ _ b P_this (e54.symm.trans hb)) _ e55) q57) (by decide)
        cases hf
        exact F58
      · rw [if_neg c31] at hf
        by_cases c59 : x9 = 4
        · rw [if_pos c59] at hf
          replace hf := bd2_i hf; obtain ⟨x51, h49, q60, hf⟩ := hf
          have F61 := FrC.trans F0 (pX9_doFold_fr PE F0.1 P_this P_p2 q60) (by decide)
          replace hf := (bz_i hf).2
          cases hf
          exact F61
        · rw [if_neg c59] at hf
          by_cases c62 : x9 = 5
          · rw [if_pos c62] at hf
            replace hf := bd2_i hf; obtain ⟨x56, h54, q63, hf⟩ := hf
            have F64 := FrC.trans F0 (pX9_doFold_fr PE F0.1 P_this P_p2 q63) (by decide)
            replace hf := (bz_i hf).2
            cases hf
            exact F64
          · rw [if_neg c62] at hf
            cases hf
            exact F0
set_option maxRecDepth 10000 in
set_option maxHeartbeats 2000000 in
theorem pX9_doElements_b111_fr {P : Nat → Prop} {E : EC} {g : MT} {this : Nat} {p1 : Int32} {p2 : Nat} {l3 : Int32} {h : CT} {h0 : CT} {r9 : Int32} {h9 : CT} (t0 : gT g this = 8) (PE : PEc P E) (P_this : P this) (P_p2 : P p2) (F0 : FrC P [(1, 4), (1, 2003), (3, 4), (4, 1), (4, 4000), (8, 10), (9, 0), (9, 1), (9, 3), (9, 4), (9, 5), (9, 10), (9, 11), (9, 12), (20, 1000), (22, 5000), (24, 1000)] g h0 h) (hf : pX9_doElements_b111 E g this p1 p2 l3 h = some (r9, h9)) : FrC P [(1, 4), (1, 2003), (3, 4), (4, 1), (4, 4000), (8, 10), (9, 0), (9, 1), (9, 3), (9, 4), (9, 5), (9, 10), (9, 11), (9, 12), (20, 1000), (22, 5000), (24, 1000)] g h0 h9 := by
  unfold pX9_doElements_b111 at hf
  replace hf := bd2_i hf; obtain ⟨x3, h1, q1, hf⟩ := hf
  have F2 := FrC.trans F0 (pX9_trap_fr F0.1 P_this q1) (by decide)
  replace hf := (bz_i hf).2
  cases hf
  exact F2
set_option maxRecDepth 10000 in
set_option maxHeartbeats 2000000 in
theorem pX9_doElements_b130_fr {P : Nat → Prop} {E : EC} {g : MT} {this : Nat} {p1 : Int32} {p2 : Nat} {k35 : Int32 → CT → Option ((Int32) × CT)} {l3 : Int32} {l4 : Int32} {l5 : Int32} {h : CT} {h0 : CT} {r9 : Int32} {h9 : CT} (t0 : gT g this = 8) (PE : PEc P E) (P_this : P this) (P_p2 : P p2) (hk35 : ∀ (v0 : Int32) (v1 : CT), FrC P [(1, 4), (1, 2003), (3, 4), (4, 1), (4, 4000), (8, 10), (9, 0), (9, 1), (9, 3), (9, 4), (9, 5), (9, 10), (9, 11), (9, 12), (20, 1000), (22, 5000), (24, 1000)] g h0 v1 → k35 v0 v1 = some (r9, h9) → FrC P [(1, 4), (1, 2003), (3, 4), (4, 1), (4, 4000), (8, 10), (9, 0), (9, 1), (9, 3), (9, 4), (9, 5), (9, 10), (9, 11), (9, 12), (20, 1000), (22, 5000), (24, 1000)] g h0 h9) (F0 : FrC P [(1, 4), (1, 2003), (3, 4), (4, 1), (4, 4000), (8, 10), (9, 0), (9, 1), (9, 3), (9, 4), (9, 5), (9, 10), (9, 11), (9, 12), (20, 1000), (22, 5000), (24, 1000)] g h0 h) (hf : pX9_doElements_b130 E g this p1 p2 k35 l3 l4 l5 h = some (r9, h9)) : FrC P [(1, 4), (1, 2003), (3, 4), (4, 1), (4, 4000), (8, 10), (9, 0), (9, 1), (9, 3), (9, 4), (9, 5), (9, 10), (9, 11), (9, 12), (20, 1000), (22, 5000), (24, 1000)] g h0 h9 := by
  unfold pX9_doElements_b130 at hf
  obtain ⟨r1, e1⟩ : ∃ z, z = (hR h this 5) := ⟨_, rfl⟩; replace hf := lt_i hf r1 e1
  obtain ⟨r2, e2⟩ : ∃ z, z = (hR h this 4) := ⟨_, rfl⟩; replace hf := lt_i hf r2 e2
  replace hf := nn_i hf; obtain ⟨a2, e3, hf⟩ := hf
  replace hf := tg_i hf; obtain ⟨t4, hf⟩ := hf
  replace hf := nn_i hf; obtain ⟨a1, e5, hf⟩ := hf
  replace hf := tg_i hf; obtain ⟨t6, hf⟩ := hf
  replace hf := bd_i hf; obtain ⟨h5, q7, hf⟩ := hf
  have F8 := FrC.trans F0 (pX10_take_fr PE F0.1 ((fun b hb => F0.1 _ _ b P_this (e1.symm.trans hb)) _ e5) P_p2 q7) (by decide)
  replace hf := bd_i hf; obtain ⟨h7, q9, hf⟩ := hf
  have F10 := FrC.trans F8 (pX9_doElement_fr PE F8.1 P_this P_p2 q9) (by decide)
  obtain ⟨x9, e11⟩ : ∃ z, z = (l3 + 1) := ⟨_, rfl⟩; replace hf := lt_i hf x9 e11
  exact hk35 _ _ F10 hf
set_option maxRecDepth 10000 in
set_option maxHeartbeats 2000000 in
theorem pX9_doElements_b91_fr {P : Nat → Prop} {E : EC} {g : MT} {this : Nat} {p1 : Int32} {p2 : Nat} {k35 : Int32 → CT → Option ((Int32) × CT)} {l3 : Int32} {h : CT} {h0 : CT} {r9 : Int32} {h9 : CT} (t0 : gT g this = 8) (PE : PEc P E) (P_this : P this) (P_p2 : P p2) (hk35 : ∀ (v0 : Int32) (v1 : CT), FrC P [(1, 4), (1, 2003), (3, 4), (4, 1), (4, 4000), (8, 10), (9, 0), (9, 1), (9, 3), (9, 4), (9, 5), (9, 10), (9, 11), (9, 12), (20, 1000), (22, 5000), (24, 1000)] g h0 v1 → k35 v0 v1 = some (r9, h9) → FrC P [(1, 4), (1, 2003), (3, 4), (4, 1), (4, 4000), (8, 10), (9, 0), (9, 1), (9, 3), (9, 4), (9, 5), (9, 10), (9, 11), (9, 12), (20, 1000), (22, 5000), (24, 1000)] g h0 h9) (F0 : FrC P [(1, 4), (1, 2003), (3, 4), (4, 1), (4, 4000), (8, 10), (9, 0), (9, 1), (9, 3), (9, 4), (9, 5), (9, 10), (9, 11), (9, 12), (20, 1000), (22, 5000), (24, 1000)] g h0 h) (hf : pX9_doElements_b91 E g this p1 p2 k35 l3 h = some (r9, h9)) : FrC P [(1, 4), (1, 2003), (3, 4), (4, 1), (4, 4000), (8, 10), (9, 0), (9, 1), (9, 3), (9, 4), (9, 5), (9, 10), (9, 11), (9, 12), (20, 1000), (22, 5000), (24, 1000)] g h0 h9 := by
  unfold pX9_doElements_b91 at hf
  replace hf := bd2_i hf; obtain ⟨x3, h1, q1, hf⟩ := hf
  have F2 := FrC.trans F0 (pX9_placeOf_fr PE F0.1 P_this P_p2 q1) (by decide)
  by_cases c3 : x3 < 0
  · rw [if_pos c3] at hf
    exact pX9_doElements_b111_fr t0 PE P_this P_p2 F2 hf
  · rw [if_neg c3] at hf
    by_cases c4 : x3 < 64
    · rw [if_pos c4] at hf
      obtain ⟨r6, e5⟩ : ∃ z, z = (hR h1 this 4) := ⟨_, rfl⟩; replace hf := lt_i hf r6 e5
      replace hf := nn_i hf; obtain ⟨a6, e6, hf⟩ := hf
      replace hf := tg_i hf; obtain ⟨t7, hf⟩ := hf
      replace hf := bd_i hf; obtain ⟨x8, q8, hf⟩ := hf
      exact pX9_doElements_b130_fr t0 PE P_this P_p2 hk35 F2 hf
    · rw [if_neg c4] at hf
      exact pX9_doElements_b111_fr t0 PE P_this P_p2 F2 hf
set_option maxRecDepth 10000 in
set_option maxHeartbeats 2000000 in
theorem pX9_doElements_b35_fr {P : Nat → Prop} {E : EC} {g : MT} {this : Nat} {p1 : Int32} {p2 : Nat} {k35 : Int32 → CT → Option ((Int32) × CT)} {l3 : Int32} {h : CT} {h0 : CT} {r9 : Int32} {h9 : CT} (t0 : gT g this = 8) (PE : PEc P E) (P_this : P this) (P_p2 : P p2) (hk35 : ∀ (v0 : Int32) (v1 : CT), FrC P [(1, 4), (1, 2003), (3, 4), (4, 1), (4, 4000), (8, 10), (9, 0), (9, 1), (9, 3), (9, 4), (9, 5), (9, 10), (9, 11), (9, 12), (20, 1000), (22, 5000), (24, 1000)] g h0 v1 → k35 v0 v1 = some (r9, h9) → FrC P [(1, 4), (1, 2003), (3, 4), (4, 1), (4, 4000), (8, 10), (9, 0), (9, 1), (9, 3), (9, 4), (9, 5), (9, 10), (9, 11), (9, 12), (20, 1000), (22, 5000), (24, 1000)] g h0 h9) (F0 : FrC P [(1, 4), (1, 2003), (3, 4), (4, 1), (4, 4000), (8, 10), (9, 0), (9, 1), (9, 3), (9, 4), (9, 5), (9, 10), (9, 11), (9, 12), (20, 1000), (22, 5000), (24, 1000)] g h0 h) (hf : pX9_doElements_b35 E g this p1 p2 k35 l3 h = some (r9, h9)) : FrC P [(1, 4), (1, 2003), (3, 4), (4, 1), (4, 4000), (8, 10), (9, 0), (9, 1), (9, 3), (9, 4), (9, 5), (9, 10), (9, 11), (9, 12), (20, 1000), (22, 5000), (24, 1000)] g h0 h9 := by
  unfold pX9_doElements_b35 at hf
  obtain ⟨r1, e1⟩ : ∃ z, z = (hR h this 4) := ⟨_, rfl⟩; replace hf := lt_i hf r1 e1
  replace hf := nn_i hf; obtain ⟨a1, e2, hf⟩ := hf
  replace hf := tg_i hf; obtain ⟨t3, hf⟩ := hf
  by_cases c4 : (hI h a1 5) ≤ l3
  · rw [if_pos c4] at hf
    obtain ⟨r4, e5⟩ : ∃ z, z = (hR h this 5) := ⟨_, rfl⟩; replace hf := lt_i hf r4 e5
    replace hf := nn_i hf; obtain ⟨a4, e6, hf⟩ := hf
    replace hf := tg_i hf; obtain ⟨t7, hf⟩ := hf
    replace hf := bd_i hf; obtain ⟨h6, q8, hf⟩ := hf
    have F9 := FrC.trans F0 (pX10_finish_fr PE F0.1 ((fun b hb => F0.1 _ _ b P_this (e5.symm.trans hb)) _ e6) P_p2 q8) (by decide)
    cases hf
    exact F9
  · rw [if_neg c4] at hf
    replace hf := tg_i hf; obtain ⟨t10, hf⟩ := hf
    obtain ⟨r9, e11⟩ : ∃ z, z = (hR h p2 0) := ⟨_, rfl⟩; replace hf := lt_i hf r9 e11
    replace hf := nn_i hf; obtain ⟨a9, e12, hf⟩ := hf
    replace hf := tg_i hf; obtain ⟨t13, hf⟩ := hf
    by_cases c14 : (hI E.2.1 a9 2) = 0
    · rw [if_pos c14] at hf
      obtain ⟨r12, e15⟩ : ∃ z, z = (hR h p2 0) := ⟨_, rfl⟩; replace hf := lt_i hf r12 e15
      replace hf := nn_i hf; obtain ⟨a12, e16, hf⟩ := hf
      replace hf := tg_i hf; obtain ⟨t17, hf⟩ := hf
      replace hf := bd_i hf; obtain ⟨x14, q18, hf⟩ := hf
      by_cases c19 : x14 = 0
      · rw [if_pos c19] at hf
        exact pX9_doElements_b91_fr t0 PE P_this P_p2 hk35 F0 hf
      · rw [if_neg c19] at hf
        replace hf := bd2_i hf; obtain ⟨x19, h17, q20, hf⟩ := hf
        have F21 := FrC.trans F0 (pX9_offsetFits_fr F0.1 P_this P_p2 q20) (by decide)
        by_cases c22 : x19 = 0
        · rw [if_pos c22] at hf
          replace hf := bd2_i hf; obtain ⟨x23, h21, q23, hf⟩ := hf
          have F24 := FrC.trans F21 (pX9_trap_fr F21.1 P_this q23) (by decide)
          replace hf := (bz_i hf).2
          cases hf
          exact F24
        · rw [if_neg c22] at hf
          exact pX9_doElements_b91_fr t0 PE P_this P_p2 hk35 F21 hf
    · rw [if_neg c14] at hf
      exact pX9_doElements_b130_fr t0 PE P_this P_p2 hk35 F0 hf
set_option maxRecDepth 10000 in
set_option maxHeartbeats 2000000 in
theorem pX9_doElements_l35_fr {P : Nat → Prop} {E : EC} {g : MT} {this : Nat} {p1 : Int32} {p2 : Nat} {h0 : CT} {r9 : Int32} {h9 : CT} (t0 : gT g this = 8) (PE : PEc P E) (P_this : P this) (P_p2 : P p2) : ∀ (n : Nat) (v1 : Int32) (v2 : CT), FrC P [(1, 4), (1, 2003), (3, 4), (4, 1), (4, 4000), (8, 10), (9, 0), (9, 1), (9, 3), (9, 4), (9, 5), (9, 10), (9, 11), (9, 12), (20, 1000), (22, 5000), (24, 1000)] g h0 v2 → pX9_doElements_l35 E g this p1 p2 n v1 v2 = some (r9, h9) → FrC P [(1, 4), (1, 2003), (3, 4), (4, 1), (4, 4000), (8, 10), (9, 0), (9, 1), (9, 3), (9, 4), (9, 5), (9, 10), (9, 11), (9, 12), (20, 1000), (22, 5000), (24, 1000)] g h0 h9 := by
  intro n
  induction n with
  | zero => intro v1 v2 F0 hf; cases hf
  | succ n ih => intro v1 v2 F0 hf; exact pX9_doElements_b35_fr t0 PE P_this P_p2 ih F0 hf
set_option maxRecDepth 10000 in
set_option maxHeartbeats 2000000 in
theorem pX9_doElements_fr {P : Nat → Prop} {E : EC} {g : MT} {h : CT} {this : Nat} {p1 : Int32} {p2 : Nat} {r9 : Int32} {h9 : CT} (PE : PEc P E) (hc : Cl P h) (P_this : P this) (P_p2 : P p2) (hf : pX9_doElements E g h this p1 p2 = some (r9, h9)) : FrC P [(1, 4), (1, 2003), (3, 4), (4, 1), (4, 4000), (8, 10), (9, 0), (9, 1), (9, 3), (9, 4), (9, 5), (9, 10), (9, 11), (9, 12), (20, 1000), (22, 5000), (24, 1000)] g h h9 := by
  have F0 : FrC P [(1, 4), (1, 2003), (3, 4), (4, 1), (4, 4000), (8, 10), (9, 0), (9, 1), (9, 3), (9, 4), (9, 5), (9, 10), (9, 11), (9, 12), (20, 1000), (22, 5000), (24, 1000)] g h h := FrC.rf hc
  unfold pX9_doElements at hf
  replace hf := tg_i hf; obtain ⟨t1, hf⟩ := hf
  obtain ⟨r1, e2⟩ : ∃ z, z = (hR h this 4) := ⟨_, rfl⟩; replace hf := lt_i hf r1 e2
  replace hf := nn_i hf; obtain ⟨a1, e3, hf⟩ := hf
  replace hf := tg_i hf; obtain ⟨t4, hf⟩ := hf
  by_cases c5 : (hI h a1 5) = 0
  · rw [if_pos c5] at hf
    cases hf
    exact F0
  · rw [if_neg c5] at hf
    replace hf := bd_i hf; obtain ⟨x4, q6, hf⟩ := hf
    by_cases c7 : x4 = 0
    · rw [if_pos c7] at hf
      obtain ⟨h7, e8⟩ : ∃ z, z = (sI h this 10 0) := ⟨_, rfl⟩; replace hf := lt_i hf h7 e8
      have F9 := FrC.sI F0 P_this t1 (Or.inl (by decide)) e8
      exact pX9_doElements_l35_fr t1 PE P_this P_p2 _ _ _ F9 hf
    · rw [if_neg c7] at hf
      replace hf := bd2_i hf; obtain ⟨x10, h8, q10, hf⟩ := hf
      have F11 := FrC.trans F0 (pX9_trap_fr F0.1 P_this q10) (by decide)
      replace hf := (bz_i hf).2
      cases hf
      exact F11
set_option maxRecDepth 10000 in
set_option maxHeartbeats 2000000 in
theorem pX12_give_fr {P : Nat → Prop} {g : MT} {h : CT} {this : Nat} {p1 : Int32} {p2 : Int64} {p4 : Int32} {r9 : Int32} {h9 : CT} (hc : Cl P h) (P_this : P this) (hf : pX12_give g h this p1 p2 p4 = some (r9, h9)) : FrC P [(1, 1), (1, 4), (1, 2000), (1, 2003), (4, 1), (4, 4000), (11, 19), (22, 5000), (24, 1000)] g h h9 := by
  have F0 : FrC P [(1, 1), (1, 4), (1, 2000), (1, 2003), (4, 1), (4, 4000), (11, 19), (22, 5000), (24, 1000)] g h h := FrC.rf hc
  unfold pX12_give at hf
  replace hf := tg_i hf; obtain ⟨t1, hf⟩ := hf
  by_cases c2 : (pX12_within p1 0 3) = 0
  · rw [if_pos c2] at hf
    replace hf := bd2_i hf; obtain ⟨x10, h8, q3, hf⟩ := hf
    have F4 := FrC.trans F0 (pX12_refuse_fr F0.1 P_this q3) (by decide)
    cases hf
    exact F4
  · rw [if_neg c2] at hf
    obtain ⟨r2, e5⟩ : ∃ z, z = (hR h this 4) := ⟨_, rfl⟩; replace hf := lt_i hf r2 e5
    replace hf := nn_i hf; obtain ⟨a2, e6, hf⟩ := hf
    replace hf := tg_i hf; obtain ⟨t7, hf⟩ := hf
    obtain ⟨r4, e8⟩ : ∃ z, z = (hR h a2 2) := ⟨_, rfl⟩; replace hf := lt_i hf r4 e8
    replace hf := nn_i hf; obtain ⟨a4, e9, hf⟩ := hf
    replace hf := bd2_i hf; obtain ⟨x7, h5, q10, hf⟩ := hf
    have F11 := FrC.trans F0 (pX12_placeNumber_fr F0.1 P_this ((fun b hb => F0.1 _ _ b ((fun b hb => F0.1 _ _ b P_this (e5.symm.trans hb)) _ e6) (e8.symm.trans hb)) _ e9) q10) (by decide)
    cases hf
    exact F11
set_option maxRecDepth 10000 in
set_option maxHeartbeats 2000000 in
theorem pX12_poke_fr {P : Nat → Prop} {g : MT} {h : CT} {this : Nat} {p1 : Int32} {p2 : Int64} {p4 : Int32} {r9 : Int32} {h9 : CT} (hc : Cl P h) (P_this : P this) (hf : pX12_poke g h this p1 p2 p4 = some (r9, h9)) : FrC P [(1, 1), (1, 4), (1, 2000), (1, 2003), (4, 1), (4, 4000), (11, 19), (22, 5000), (24, 1000)] g h h9 := by
  have F0 : FrC P [(1, 1), (1, 4), (1, 2000), (1, 2003), (4, 1), (4, 4000), (11, 19), (22, 5000), (24, 1000)] g h h := FrC.rf hc
  unfold pX12_poke at hf
  replace hf := tg_i hf; obtain ⟨t1, hf⟩ := hf
  by_cases c2 : (pX12_isWord p1) = 0
  · rw [if_pos c2] at hf
    replace hf := bd2_i hf; obtain ⟨x10, h8, q3, hf⟩ := hf
    have F4 := FrC.trans F0 (pX12_refuse_fr F0.1 P_this q3) (by decide)
    cases hf
    exact F4
  · rw [if_neg c2] at hf
    obtain ⟨r2, e5⟩ : ∃ z, z = (hR h this 4) := ⟨_, rfl⟩; replace hf := lt_i hf r2 e5
    replace hf := nn_i hf; obtain ⟨a2, e6, hf⟩ := hf
    replace hf := tg_i hf; obtain ⟨t7, hf⟩ := hf
    obtain ⟨r4, e8⟩ : ∃ z, z = (hR h a2 3) := ⟨_, rfl⟩; replace hf := lt_i hf r4 e8
    replace hf := nn_i hf; obtain ⟨a4, e9, hf⟩ := hf
    replace hf := bd2_i hf; obtain ⟨x7, h5, q10, hf⟩ := hf
    have F11 := FrC.trans F0 (pX12_placeNumber_fr F0.1 P_this ((fun b hb => F0.1 _ _ b ((fun b hb => F0.1 _ _ b P_this (e5.symm.trans hb)) _ e6) (e8.symm.trans hb)) _ e9) q10) (by decide)
    cases hf
    exact F11
set_option maxRecDepth 10000 in
set_option maxHeartbeats 2000000 in
theorem pX9_perform_b180_fr {P : Nat → Prop} {E : EC} {g : MT} {this : Nat} {p1 : Nat} {p2 : Nat} {k32 : Int32 → Int32 → CT → Option CT} {l3 : Int32} {l4 : Int32} {h : CT} {h0 : CT} {h9 : CT} (t0 : gT g this = 8) (PE : PEc P E) (P_this : P this) (P_p1 : P p1) (P_p2 : P p2) (hk32 : ∀ (v0 : Int32) (v1 : Int32) (v2 : CT), FrC P [(1, 4), (1, 2003), (3, 4), (3, 5), (4, 1), (4, 4000), (8, 7), (8, 8), (8, 9), (8, 10), (8, 6004), (8, 6005), (8, 6006), (9, 0), (9, 1), (9, 2), (9, 3), (9, 4), (9, 5), (9, 8), (9, 9), (9, 10), (9, 11), (9, 12), (20, 1000), (22, 5000), (24, 1000)] g h0 v2 → k32 v0 v1 v2 = some h9 → FrC P [(1, 4), (1, 2003), (3, 4), (3, 5), (4, 1), (4, 4000), (8, 7), (8, 8), (8, 9), (8, 10), (8, 6004), (8, 6005), (8, 6006), (9, 0), (9, 1), (9, 2), (9, 3), (9, 4), (9, 5), (9, 8), (9, 9), (9, 10), (9, 11), (9, 12), (20, 1000), (22, 5000), (24, 1000)] g h0 h9) (F0 : FrC P [(1, 4), (1, 2003), (3, 4), (3, 5), (4, 1), (4, 4000), (8, 7), (8, 8), (8, 9), (8, 10), (8, 6004), (8, 6005), (8, 6006), (9, 0), (9, 1), (9, 2), (9, 3), (9, 4), (9, 5), (9, 8), (9, 9), (9, 10), (9, 11), (9, 12), (20, 1000), (22, 5000), (24, 1000)] g h0 h) (hf : pX9_perform_b180 E g this p1 p2 k32 l3 l4 h = some h9) : FrC P [(1, 4), (1, 2003), (3, 4), (3, 5), (4, 1), (4, 4000), (8, 7), (8, 8), (8, 9), (8, 10), (8, 6004), (8, 6005), (8, 6006), (9, 0), (9, 1), (9, 2), (9, 3), (9, 4), (9, 5), (9, 8), (9, 9), (9, 10), (9, 11), (9, 12), (20, 1000), (22, 5000), (24, 1000)] g h0 h9 := by
  unfold pX9_perform_b180 at hf
  obtain ⟨x1, e1⟩ : ∃ z, z = (l4 + 1) := ⟨_, rfl⟩; replace hf := lt_i hf x1 e1
  exact hk32 _ _ _ F0 hf
set_option maxRecDepth 10000 in
set_option maxHeartbeats 2000000 in
theorem pX9_perform_b179_fr {P : Nat → Prop} {E : EC} {g : MT} {this : Nat} {p1 : Nat} {p2 : Nat} {k32 : Int32 → Int32 → CT → Option CT} {l4 : Int32} {s0 : Int32} {h : CT} {h0 : CT} {h9 : CT} (t0 : gT g this = 8) (PE : PEc P E) (P_this : P this) (P_p1 : P p1) (P_p2 : P p2) (hk32 : ∀ (v0 : Int32) (v1 : Int32) (v2 : CT), FrC P [(1, 4), (1, 2003), (3, 4), (3, 5), (4, 1), (4, 4000), (8, 7), (8, 8), (8, 9), (8, 10), (8, 6004), (8, 6005), (8, 6006), (9, 0), (9, 1), (9, 2), (9, 3), (9, 4), (9, 5), (9, 8), (9, 9), (9, 10), (9, 11), (9, 12), (20, 1000), (22, 5000), (24, 1000)] g h0 v2 → k32 v0 v1 v2 = some h9 → FrC P [(1, 4), (1, 2003), (3, 4), (3, 5), (4, 1), (4, 4000), (8, 7), (8, 8), (8, 9), (8, 10), (8, 6004), (8, 6005), (8, 6006), (9, 0), (9, 1), (9, 2), (9, 3), (9, 4), (9, 5), (9, 8), (9, 9), (9, 10), (9, 11), (9, 12), (20, 1000), (22, 5000), (24, 1000)] g h0 h9) (F0 : FrC P [(1, 4), (1, 2003), (3, 4), (3, 5), (4, 1), (4, 4000), (8, 7), (8, 8), (8, 9), (8, 10), (8, 6004), (8, 6005), (8, 6006), (9, 0), (9, 1), (9, 2), (9, 3), (9, 4), (9, 5), (9, 8), (9, 9), (9, 10), (9, 11), (9, 12), (20, 1000), (22, 5000), (24, 1000)] g h0 h) (hf : pX9_perform_b179 E g this p1 p2 k32 l4 s0 h = some h9) : FrC P [(1, 4), (1, 2003), (3, 4), (3, 5), (4, 1), (4, 4000), (8, 7), (8, 8), (8, 9), (8, 10), (8, 6004), (8, 6005), (8, 6006), (9, 0), (9, 1), (9, 2), (9, 3), (9, 4), (9, 5), (9, 8), (9, 9), (9, 10), (9, 11), (9, 12), (20, 1000), (22, 5000), (24, 1000)] g h0 h9 := by
  unfold pX9_perform_b179 at hf
  exact pX9_perform_b180_fr t0 PE P_this P_p1 P_p2 hk32 F0 hf
set_option maxRecDepth 10000 in
set_option maxHeartbeats 2000000 in
theorem pX9_perform_b159_fr {P : Nat → Prop} {E : EC} {g : MT} {this : Nat} {p1 : Nat} {p2 : Nat} {k32 : Int32 → Int32 → CT → Option CT} {l3 : Int32} {l4 : Int32} {r95 : Option Nat} {l6 : Int32} {r80 : Option Nat} {s1 : Int32} {s2 : Int32} {h : CT} {h0 : CT} {h9 : CT} (t0 : gT g this = 8) (PE : PEc P E) (P_this : P this) (P_p1 : P p1) (P_p2 : P p2) (hk32 : ∀ (v0 : Int32) (v1 : Int32) (v2 : CT), FrC P [(1, 4), (1, 2003), (3, 4), (3, 5), (4, 1), (4, 4000), (8, 7), (8, 8), (8, 9), (8, 10), (8, 6004), (8, 6005), (8, 6006), (9, 0), (9, 1), (9, 2), (9, 3), (9, 4), (9, 5), (9, 8), (9, 9), (9, 10), (9, 11), (9, 12), (20, 1000), (22, 5000), (24, 1000)] g h0 v2 → k32 v0 v1 v2 = some h9 → FrC P [(1, 4), (1, 2003), (3, 4), (3, 5), (4, 1), (4, 4000), (8, 7), (8, 8), (8, 9), (8, 10), (8, 6004), (8, 6005), (8, 6006), (9, 0), (9, 1), (9, 2), (9, 3), (9, 4), (9, 5), (9, 8), (9, 9), (9, 10), (9, 11), (9, 12), (20, 1000), (22, 5000), (24, 1000)] g h0 h9) (P_r95 : ∀ b, r95 = some b → P b) (P_r80 : ∀ b, r80 = some b → P b) (F0 : FrC P [(1, 4), (1, 2003), (3, 4), (3, 5), (4, 1), (4, 4000), (8, 7), (8, 8), (8, 9), (8, 10), (8, 6004), (8, 6005), (8, 6006), (9, 0), (9, 1), (9, 2), (9, 3), (9, 4), (9, 5), (9, 8), (9, 9), (9, 10), (9, 11), (9, 12), (20, 1000), (22, 5000), (24, 1000)] g h0 h) (hf : pX9_perform_b159 E g this p1 p2 k32 l3 l4 r95 l6 r80 s1 s2 h = some h9) : FrC P [(1, 4), (1, 2003), (3, 4), (3, 5), (4, 1), (4, 4000), (8, 7), (8, 8), (8, 9), (8, 10), (8, 6004), (8, 6005), (8, 6006), (9, 0), (9, 1), (9, 2), (9, 3), (9, 4), (9, 5), (9, 8), (9, 9), (9, 10), (9, 11), (9, 12), (20, 1000), (22, 5000), (24, 1000)] g h0 h9 := by
  unfold pX9_perform_b159 at hf
  replace hf := nn_i hf; obtain ⟨a80, e1, hf⟩ := hf
  replace hf := tg_i hf; obtain ⟨t2, hf⟩ := hf
  obtain ⟨h2, e3⟩ : ∃ z, z = (sI h a80 2 (s1 + s2)) := ⟨_, rfl⟩; replace hf := lt_i hf h2 e3
  have F4 := FrC.sI F0 (P_r80 _ e1) t2 (Or.inl (by decide)) e3
  by_cases c5 : l6 = 0
  · rw [if_pos c5] at hf
    exact pX9_perform_b179_fr t0 PE P_this P_p1 P_p2 hk32 F4 hf
  · rw [if_neg c5] at hf
    replace hf := nn_i hf; obtain ⟨a95, e6, hf⟩ := hf
    replace hf := bd2_i hf; obtain ⟨x6, h4, q7, hf⟩ := hf
    have F8 := FrC.trans F4 (pX9_behind_fr PE F4.1 P_this (P_r95 _ e6) q7) (by decide)
    exact pX9_perform_b179_fr t0 PE P_this P_p1 P_p2 hk32 F8 hf
set_option maxRecDepth 10000 in
set_option maxHeartbeats 2000000 in
theorem pX9_perform_b139_fr {P : Nat → Prop} {E : EC} {g : MT} {this : Nat} {p1 : Nat} {p2 : Nat} {k32 : Int32 → Int32 → CT → Option CT} {l3 : Int32} {l4 : Int32} {r95 : Option Nat} {s0 : Int32} {h : CT} {h0 : CT} {h9 : CT} (t0 : gT g this = 8) (PE : PEc P E) (P_this : P this) (P_p1 : P p1) (P_p2 : P p2) (hk32 : ∀ (v0 : Int32) (v1 : Int32) (v2 : CT), FrC P [(1, 4), (1, 2003), (3, 4), (3, 5), (4, 1), (4, 4000), (8, 7), (8, 8), (8, 9), (8, 10), (8, 6004), (8, 6005), (8, 6006), (9, 0), (9, 1), (9, 2), (9, 3), (9, 4), (9, 5), (9, 8), (9, 9), (9, 10), (9, 11), (9, 12), (20, 1000), (22, 5000), (24, 1000)] g h0 v2 → k32 v0 v1 v2 = some h9 → FrC P [(1, 4), (1, 2003), (3, 4), (3, 5), (4, 1), (4, 4000), (8, 7), (8, 8), (8, 9), (8, 10), (8, 6004), (8, 6005), (8, 6006), (9, 0), (9, 1), (9, 2), (9, 3), (9, 4), (9, 5), (9, 8), (9, 9), (9, 10), (9, 11), (9, 12), (20, 1000), (22, 5000), (24, 1000)] g h0 h9) (P_r95 : ∀ b, r95 = some b → P b) (F0 : FrC P [(1, 4), (1, 2003), (3, 4), (3, 5), (4, 1), (4, 4000), (8, 7), (8, 8), (8, 9), (8, 10), (8, 6004), (8, 6005), (8, 6006), (9, 0), (9, 1), (9, 2), (9, 3), (9, 4), (9, 5), (9, 8), (9, 9), (9, 10), (9, 11), (9, 12), (20, 1000), (22, 5000), (24, 1000)] g h0 h) (hf : pX9_perform_b139 E g this p1 p2 k32 l3 l4 r95 s0 h = some h9) : FrC P [(1, 4), (1, 2003), (3, 4), (3, 5), (4, 1), (4, 4000), (8, 7), (8, 8), (8, 9), (8, 10), (8, 6004), (8, 6005), (8, 6006), (9, 0), (9, 1), (9, 2), (9, 3), (9, 4), (9, 5), (9, 8), (9, 9), (9, 10), (9, 11), (9, 12), (20, 1000), (22, 5000), (24, 1000)] g h0 h9 := by
  unfold pX9_perform_b139 at hf
  obtain ⟨r1, e1⟩ : ∃ z, z = (hR h this 5) := ⟨_, rfl⟩; replace hf := lt_i hf r1 e1
  replace hf := nn_i hf; obtain ⟨a1, e2, hf⟩ := hf
  replace hf := tg_i hf; obtain ⟨t3, hf⟩ := hf
  by_cases c4 : s0 = 0
  · rw [if_pos c4] at hf
    exact pX9_perform_b159_fr t0 PE P_this P_p1 P_p2 hk32 P_r95 (fun b hb => Option.some.inj hb ▸ ((fun b hb => F0.1 _ _ b P_this (e1.symm.trans hb)) _ e2)) F0 hf
  · rw [if_neg c4] at hf
    exact pX9_perform_b159_fr t0 PE P_this P_p1 P_p2 hk32 P_r95 (fun b hb => Option.some.inj hb ▸ ((fun b hb => F0.1 _ _ b P_this (e1.symm.trans hb)) _ e2)) F0 hf
set_option maxRecDepth 10000 in
set_option maxHeartbeats 2000000 in
theorem pX9_perform_b83_fr {P : Nat → Prop} {E : EC} {g : MT} {this : Nat} {p1 : Nat} {p2 : Nat} {k32 : Int32 → Int32 → CT → Option CT} {l3 : Int32} {l4 : Int32} {r95 : Option Nat} {h : CT} {h0 : CT} {h9 : CT} (t0 : gT g this = 8) (PE : PEc P E) (P_this : P this) (P_p1 : P p1) (P_p2 : P p2) (hk32 : ∀ (v0 : Int32) (v1 : Int32) (v2 : CT), FrC P [(1, 4), (1, 2003), (3, 4), (3, 5), (4, 1), (4, 4000), (8, 7), (8, 8), (8, 9), (8, 10), (8, 6004), (8, 6005), (8, 6006), (9, 0), (9, 1), (9, 2), (9, 3), (9, 4), (9, 5), (9, 8), (9, 9), (9, 10), (9, 11), (9, 12), (20, 1000), (22, 5000), (24, 1000)] g h0 v2 → k32 v0 v1 v2 = some h9 → FrC P [(1, 4), (1, 2003), (3, 4), (3, 5), (4, 1), (4, 4000), (8, 7), (8, 8), (8, 9), (8, 10), (8, 6004), (8, 6005), (8, 6006), (9, 0), (9, 1), (9, 2), (9, 3), (9, 4), (9, 5), (9, 8), (9, 9), (9, 10), (9, 11), (9, 12), (20, 1000), (22, 5000), (24, 1000)] g h0 h9) (P_r95 : ∀ b, r95 = some b → P b) (F0 : FrC P [(1, 4), (1, 2003), (3, 4), (3, 5), (4, 1), (4, 4000), (8, 7), (8, 8), (8, 9), (8, 10), (8, 6004), (8, 6005), (8, 6006), (9, 0), (9, 1), (9, 2), (9, 3), (9, 4), (9, 5), (9, 8), (9, 9), (9, 10), (9, 11), (9, 12), (20, 1000), (22, 5000), (24, 1000)] g h0 h) (hf : pX9_perform_b83 E g this p1 p2 k32 l3 l4 r95 h = some h9) : FrC P [(1, 4), (1, 2003), (3, 4), (3, 5), (4, 1), (4, 4000), (8, 7), (8, 8), (8, 9), (8, 10), (8, 6004), (8, 6005), (8, 6006), (9, 0), (9, 1), (9, 2), (9, 3), (9, 4), (9, 5), (9, 8), (9, 9), (9, 10), (9, 11), (9, 12), (20, 1000), (22, 5000), (24, 1000)] g h0 h9 := by
  unfold pX9_perform_b83 at hf
  by_cases c1 : r95 = none
  · rw [if_pos c1] at hf
    exact pX9_perform_b180_fr t0 PE P_this P_p1 P_p2 hk32 F0 hf
  · rw [if_neg c1] at hf
    obtain ⟨r2, e2⟩ : ∃ z, z = (hR h this 5) := ⟨_, rfl⟩; replace hf := lt_i hf r2 e2
    obtain ⟨r3, e3⟩ : ∃ z, z = (hR h this 4) := ⟨_, rfl⟩; replace hf := lt_i hf r3 e3
    replace hf := nn_i hf; obtain ⟨a3, e4, hf⟩ := hf
    replace hf := tg_i hf; obtain ⟨t5, hf⟩ := hf
    replace hf := nn_i hf; obtain ⟨a2, e6, hf⟩ := hf
    replace hf := tg_i hf; obtain ⟨t7, hf⟩ := hf
    replace hf := nn_i hf; obtain ⟨a95, e8, hf⟩ := hf
    replace hf := bd_i hf; obtain ⟨h6, q9, hf⟩ := hf
    have F10 := FrC.trans F0 (pX10_beginInstr_fr PE F0.1 ((fun b hb => F0.1 _ _ b P_this (e2.symm.trans hb)) _ e6) (P_r95 _ e8) q9) (by decide)
    replace hf := tg_i hf; obtain ⟨t11, hf⟩ := hf
    obtain ⟨r9, e12⟩ : ∃ z, z = (hR h6 a95 0) := ⟨_, rfl⟩; replace hf := lt_i hf r9 e12
    replace hf := nn_i hf; obtain ⟨a9, e13, hf⟩ := hf
    replace hf := tg_i hf; obtain ⟨t14, hf⟩ := hf
    by_cases c15 : (hI E.2.1 a9 2) = (-1)
    · rw [if_pos c15] at hf
      replace hf := bd2_i hf; obtain ⟨x17, h15, q16, hf⟩ := hf
      have F17 := FrC.trans F10 (pX9_doAtOnce_fr PE F10.1 P_this (P_r95 _ e8) q16) (by decide)
      exact pX9_perform_b139_fr t0 PE P_this P_p1 P_p2 hk32 (fun b hb => Option.some.inj hb ▸ (P_r95 _ e8)) F17 hf
    · rw [if_neg c15] at hf
      replace hf := bd2_i hf; obtain ⟨x14, h12, q18, hf⟩ := hf
      have F19 := FrC.trans F10 (pX9_doElements_fr PE F10.1 P_this (P_r95 _ e8) q18) (by decide)
      exact pX9_perform_b139_fr t0 PE P_this P_p1 P_p2 hk32 (fun b hb => Option.some.inj hb ▸ (P_r95 _ e8)) F19 hf
set_option maxRecDepth 10000 in
set_option maxHeartbeats 2000000 in
theorem pX9_perform_b32_fr {P : Nat → Prop} {E : EC} {g : MT} {this : Nat} {p1 : Nat} {p2 : Nat} {k32 : Int32 → Int32 → CT → Option CT} {l3 : Int32} {l4 : Int32} {h : CT} {h0 : CT} {h9 : CT} (t0 : gT g this = 8) (PE : PEc P E) (P_this : P this) (P_p1 : P p1) (P_p2 : P p2) (hk32 : ∀ (v0 : Int32) (v1 : Int32) (v2 : CT), FrC P [(1, 4), (1, 2003), (3, 4), (3, 5), (4, 1), (4, 4000), (8, 7), (8, 8), (8, 9), (8, 10), (8, 6004), (8, 6005), (8, 6006), (9, 0), (9, 1), (9, 2), (9, 3), (9, 4), (9, 5), (9, 8), (9, 9), (9, 10), (9, 11), (9, 12), (20, 1000), (22, 5000), (24, 1000)] g h0 v2 → k32 v0 v1 v2 = some h9 → FrC P [(1, 4), (1, 2003), (3, 4), (3, 5), (4, 1), (4, 4000), (8, 7), (8, 8), (8, 9), (8, 10), (8, 6004), (8, 6005), (8, 6006), (9, 0), (9, 1), (9, 2), (9, 3), (9, 4), (9, 5), (9, 8), (9, 9), (9, 10), (9, 11), (9, 12), (20, 1000), (22, 5000), (24, 1000)] g h0 h9) (F0 : FrC P [(1, 4), (1, 2003), (3, 4), (3, 5), (4, 1), (4, 4000), (8, 7), (8, 8), (8, 9), (8, 10), (8, 6004), (8, 6005), (8, 6006), (9, 0), (9, 1), (9, 2), (9, 3), (9, 4), (9, 5), (9, 8), (9, 9), (9, 10), (9, 11), (9, 12), (20, 1000), (22, 5000), (24, 1000)] g h0 h) (hf : pX9_perform_b32 E g this p1 p2 k32 l3 l4 h = some h9) : FrC P [(1, 4), (1, 2003), (3, 4), (3, 5), (4, 1), (4, 4000), (8, 7), (8, 8), (8, 9), (8, 10), (8, 6004), (8, 6005), (8, 6006), (9, 0), (9, 1), (9, 2), (9, 3), (9, 4), (9, 5), (9, 8), (9, 9), (9, 10), (9, 11), (9, 12), (20, 1000), (22, 5000), (24, 1000)] g h0 h9 := by
  unfold pX9_perform_b32 at hf
  by_cases c1 : 1000000 ≤ l4
  · rw [if_pos c1] at hf
    cases hf
    exact F0
  · rw [if_neg c1] at hf
    by_cases c2 : l3 = (-1)
    · rw [if_pos c2] at hf
      cases hf
      exact F0
    · rw [if_neg c2] at hf
      obtain ⟨r3, e3⟩ : ∃ z, z = (hR h this 4) := ⟨_, rfl⟩; replace hf := lt_i hf r3 e3
      replace hf := nn_i hf; obtain ⟨a3, e4, hf⟩ := hf
      replace hf := tg_i hf; obtain ⟨t5, hf⟩ := hf
      obtain ⟨r5, e6⟩ : ∃ z, z = (hR h a3 8) := ⟨_, rfl⟩; replace hf := lt_i hf r5 e6
      replace hf := nn_i hf; obtain ⟨a5, e7, hf⟩ := hf
      replace hf := tg_i hf; obtain ⟨t8, hf⟩ := hf
      replace hf := bd_i hf; obtain ⟨r7, q9, hf⟩ := hf
      obtain ⟨r9, e10⟩ : ∃ z, z = (hR h this 6) := ⟨_, rfl⟩; replace hf := lt_i hf r9 e10
      by_cases c11 : r9 = none
      · rw [if_pos c11] at hf
        exact pX9_perform_b83_fr t0 PE P_this P_p1 P_p2 hk32 (pX7_at_fr F0.1 ((fun b hb => F0.1 _ _ b ((fun b hb => F0.1 _ _ b P_this (e3.symm.trans hb)) _ e4) (e6.symm.trans hb)) _ e7) q9) F0 hf
      · rw [if_neg c11] at hf
        obtain ⟨r11, e12⟩ : ∃ z, z = (hR h this 6) := ⟨_, rfl⟩; replace hf := lt_i hf r11 e12
        replace hf := nn_i hf; obtain ⟨a11, e13, hf⟩ := hf
        replace hf := tg_i hf; obtain ⟨t14, hf⟩ := hf
        by_cases c15 : l3 < (hI h a11 9)
        · rw [if_pos c15] at hf
          exact pX9_perform_b83_fr t0 PE P_this P_p1 P_p2 hk32 (pX7_at_fr F0.1 ((fun b hb => F0.1 _ _ b ((fun b hb => F0.1 _ _ b P_this (e3.symm.trans hb)) _ e4) (e6.symm.trans hb)) _ e7) q9) F0 hf
        · rw [if_neg c15] at hf
          replace hf := bd2_i hf; obtain ⟨x16, h14, q16, hf⟩ := hf
          have F17 := FrC.trans F0 (pX9_endRound_fr F0.1 P_this q16) (by decide)
          exact pX9_perform_b180_fr t0 PE P_this P_p1 P_p2 hk32 F17 hf
set_option maxRecDepth 10000 in
set_option maxHeartbeats 2000000 in
theorem pX9_perform_l32_fr {P : Nat → Prop} {E : EC} {g : MT} {this : Nat} {p1 : Nat} {p2 : Nat} {h0 : CT} {h9 : CT} (t0 : gT g this = 8) (PE : PEc P E) (P_this : P this) (P_p1 : P p1) (P_p2 : P p2) : ∀ (n : Nat) (v1 : Int32) (v2 : Int32) (v3 : CT), FrC P [(1, 4), (1, 2003), (3, 4), (3, 5), (4, 1), (4, 4000), (8, 7), (8, 8), (8, 9), (8, 10), (8, 6004), (8, 6005), (8, 6006), (9, 0), (9, 1), (9, 2), (9, 3), (9, 4), (9, 5), (9, 8), (9, 9), (9, 10), (9, 11), (9, 12), (20, 1000), (22, 5000), (24, 1000)] g h0 v3 → pX9_perform_l32 E g this p1 p2 n v1 v2 v3 = some h9 → FrC P [(1, 4), (1, 2003), (3, 4), (3, 5), (4, 1), (4, 4000), (8, 7), (8, 8), (8, 9), (8, 10), (8, 6004), (8, 6005), (8, 6006), (9, 0), (9, 1), (9, 2), (9, 3), (9, 4), (9, 5), (9, 8), (9, 9), (9, 10), (9, 11), (9, 12), (20, 1000), (22, 5000), (24, 1000)] g h0 h9 := by
  intro n
  induction n with
  | zero => intro v1 v2 v3 F0 hf; cases hf
  | succ n ih => intro v1 v2 v3 F0 hf; exact pX9_perform_b32_fr t0 PE P_this P_p1 P_p2 ih F0 hf
set_option maxRecDepth 10000 in
set_option maxHeartbeats 2000000 in
theorem pX9_perform_fr {P : Nat → Prop} {E : EC} {g : MT} {h : CT} {this : Nat} {p1 : Nat} {p2 : Nat} {h9 : CT} (PE : PEc P E) (hc : Cl P h) (P_this : P this) (P_p1 : P p1) (P_p2 : P p2) (hf : pX9_perform E g h this p1 p2 = some h9) : FrC P [(1, 4), (1, 2003), (3, 4), (3, 5), (4, 1), (4, 4000), (8, 7), (8, 8), (8, 9), (8, 10), (8, 6004), (8, 6005), (8, 6006), (9, 0), (9, 1), (9, 2), (9, 3), (9, 4), (9, 5), (9, 8), (9, 9), (9, 10), (9, 11), (9, 12), (20, 1000), (22, 5000), (24, 1000)] g h h9 := by
  have F0 : FrC P [(1, 4), (1, 2003), (3, 4), (3, 5), (4, 1), (4, 4000), (8, 7), (8, 8), (8, 9), (8, 10), (8, 6004), (8, 6005), (8, 6006), (9, 0), (9, 1), (9, 2), (9, 3), (9, 4), (9, 5), (9, 8), (9, 9), (9, 10), (9, 11), (9, 12), (20, 1000), (22, 5000), (24, 1000)] g h h := FrC.rf hc
  unfold pX9_perform at hf
  replace hf := tg_i hf; obtain ⟨t1, hf⟩ := hf
  obtain ⟨h1, e2⟩ : ∃ z, z = (sR h this 4 (some p1)) := ⟨_, rfl⟩; replace hf := lt_i hf h1 e2
  have F3 := FrC.sR F0 P_this t1 (Or.inl (by decide)) (fun b hb => Option.some.inj hb ▸ P_p1) e2
  obtain ⟨h2, e4⟩ : ∃ z, z = (sR h1 this 5 (some p2)) := ⟨_, rfl⟩; replace hf := lt_i hf h2 e4
  have F5 := FrC.sR F3 P_this t1 (Or.inl (by decide)) (fun b hb => Option.some.inj hb ▸ P_p2) e4
  obtain ⟨r3, e6⟩ : ∃ z, z = (hR h2 this 5) := ⟨_, rfl⟩; replace hf := lt_i hf r3 e6
  replace hf := nn_i hf; obtain ⟨a3, e7, hf⟩ := hf
  replace hf := tg_i hf; obtain ⟨t8, hf⟩ := hf
  replace hf := bd_i hf; obtain ⟨h5, q9, hf⟩ := hf
  have F10 := FrC.trans F5 (pX10_clear_fr F5.1 ((fun b hb => F5.1 _ _ b P_this (e6.symm.trans hb)) _ e7) q9) (by decide)
  obtain ⟨h7, e11⟩ : ∃ z, z = (sR h5 this 6 none) := ⟨_, rfl⟩; replace hf := lt_i hf h7 e11
  have F12 := FrC.sR F10 P_this t1 (Or.inl (by decide)) (fun b hb => by cases hb) e11
  obtain ⟨h8, e13⟩ : ∃ z, z = (sI h7 this 9 0) := ⟨_, rfl⟩; replace hf := lt_i hf h8 e13
  have F14 := FrC.sI F12 P_this t1 (Or.inl (by decide)) e13
  exact pX9_perform_l32_fr t1 PE P_this P_p1 P_p2 _ _ _ _ F14 hf
set_option maxRecDepth 10000 in
set_option maxHeartbeats 2000000 in
theorem pX12_run_fr {P : Nat → Prop} {E : EC} {g : MT} {h : CT} {this : Nat} {r9 : Int32} {h9 : CT} (PE : PEc P E) (hc : Cl P h) (P_this : P this) (hf : pX12_run E g h this = some (r9, h9)) : FrC P [(1, 4), (1, 2003), (3, 4), (3, 5), (4, 1), (4, 4000), (8, 7), (8, 8), (8, 9), (8, 10), (8, 6004), (8, 6005), (8, 6006), (9, 0), (9, 1), (9, 2), (9, 3), (9, 4), (9, 5), (9, 8), (9, 9), (9, 10), (9, 11), (9, 12), (11, 9), (11, 10), (11, 19), (20, 1000), (22, 5000), (24, 1000)] g h h9 := by
  have F0 : FrC P [(1, 4), (1, 2003), (3, 4), (3, 5), (4, 1), (4, 4000), (8, 7), (8, 8), (8, 9), (8, 10), (8, 6004), (8, 6005), (8, 6006), (9, 0), (9, 1), (9, 2), (9, 3), (9, 4), (9, 5), (9, 8), (9, 9), (9, 10), (9, 11), (9, 12), (11, 9), (11, 10), (11, 19), (20, 1000), (22, 5000), (24, 1000)] g h h := FrC.rf hc
  unfold pX12_run at hf
  replace hf := tg_i hf; obtain ⟨t1, hf⟩ := hf
  obtain ⟨r1, e2⟩ : ∃ z, z = (hR h this 4) := ⟨_, rfl⟩; replace hf := lt_i hf r1 e2
  replace hf := nn_i hf; obtain ⟨a1, e3, hf⟩ := hf
  replace hf := tg_i hf; obtain ⟨t4, hf⟩ := hf
  obtain ⟨r3, e5⟩ : ∃ z, z = (hR h a1 8) := ⟨_, rfl⟩; replace hf := lt_i hf r3 e5
  replace hf := nn_i hf; obtain ⟨a3, e6, hf⟩ := hf
  replace hf := tg_i hf; obtain ⟨t7, hf⟩ := hf
  by_cases c8 : (hI h a3 1) = 0
  · rw [if_pos c8] at hf
    replace hf := bd2_i hf; obtain ⟨x27, h25, q9, hf⟩ := hf
    have F10 := FrC.trans F0 (pX12_refuse_fr F0.1 P_this q9) (by decide)
    cases hf
    exact F10
  · rw [if_neg c8] at hf
    obtain ⟨r6, e11⟩ : ∃ z, z = (hR h this 7) := ⟨_, rfl⟩; replace hf := lt_i hf r6 e11
    obtain ⟨r7, e12⟩ : ∃ z, z = (hR h this 4) := ⟨_, rfl⟩; replace hf := lt_i hf r7 e12
    obtain ⟨r8, e13⟩ : ∃ z, z = (hR h this 8) := ⟨_, rfl⟩; replace hf := lt_i hf r8 e13
    replace hf := nn_i hf; obtain ⟨a6, e14, hf⟩ := hf
    replace hf := tg_i hf; obtain ⟨t15, hf⟩ := hf
    replace hf := nn_i hf; obtain ⟨a7, e16, hf⟩ := hf
    replace hf := nn_i hf; obtain ⟨a8, e17, hf⟩ := hf
    replace hf := bd_i hf; obtain ⟨h10, q18, hf⟩ := hf
    have F19 := FrC.trans F0 (pX9_perform_fr PE F0.1 ((fun b hb => F0.1 _ _ b P_this (e11.symm.trans hb)) _ e14) ((fun b hb => F0.1 _ _ b P_this (e12.symm.trans hb)) _ e16) ((fun b hb => F0.1 _ _ b P_this (e13.symm.trans hb)) _ e17) q18) (by decide)
    obtain ⟨h12, e20⟩ : ∃ z, z = (sI h10 this 9 1) := ⟨_, rfl⟩; replace hf := lt_i hf h12 e20
    have F21 := FrC.sI F19 P_this t1 (Or.inl (by decide)) e20
    obtain ⟨h13, e22⟩ : ∃ z, z = (sI h12 this 10 1) := ⟨_, rfl⟩; replace hf := lt_i hf h13 e22
    have F23 := FrC.sI F21 P_this t1 (Or.inl (by decide)) e22
    obtain ⟨r14, e24⟩ : ∃ z, z = (hR h13 this 8) := ⟨_, rfl⟩; replace hf := lt_i hf r14 e24
    replace hf := nn_i hf; obtain ⟨a14, e25, hf⟩ := hf
    replace hf := tg_i hf; obtain ⟨t26, hf⟩ := hf
    by_cases c27 : (hI h13 a14 3) = 0
    · rw [if_pos c27] at hf
      obtain ⟨r20, e28⟩ : ∃ z, z = (hR h13 this 8) := ⟨_, rfl⟩; replace hf := lt_i hf r20 e28
      replace hf := nn_i hf; obtain ⟨a20, e29, hf⟩ := hf
      replace hf := tg_i hf; obtain ⟨t30, hf⟩ := hf
      replace hf := bd2_i hf; obtain ⟨x24, h22, q31, hf⟩ := hf
      have F32 := FrC.trans F23 (pX12_answer_fr F23.1 P_this q31) (by decide)
      cases hf
      exact F32
    · rw [if_neg c27] at hf
      replace hf := bd2_i hf; obtain ⟨x19, h17, q33, hf⟩ := hf
      have F34 := FrC.trans F23 (pX12_refuse_fr F23.1 P_this q33) (by decide)
      cases hf
      exact F34
set_option maxRecDepth 10000 in
set_option maxHeartbeats 2000000 in
theorem pX12_trialCycles_b42_fr {P : Nat → Prop} {E : EC} {g : MT} {this : Nat} {p1 : Int32} {h : CT} {h0 : CT} {r9 : Int32} {h9 : CT} (t0 : gT g this = 11) (PE : PEc P E) (P_this : P this) (F0 : FrC P [(1, 4), (1, 2003), (3, 4), (3, 5), (3, 6), (3, 7), (3, 6008), (4, 1), (4, 4000), (6, 1), (8, 7), (8, 8), (8, 9), (8, 10), (8, 6004), (8, 6005), (8, 6006), (9, 0), (9, 1), (9, 2), (9, 3), (9, 4), (9, 5), (9, 8), (9, 9), (9, 10), (9, 11), (9, 12), (20, 1000), (22, 5000), (24, 1000), (25, 7000)] g h0 h) (hf : pX12_trialCycles_b42 E g this p1 h = some (r9, h9)) : FrC P [(1, 4), (1, 2003), (3, 4), (3, 5), (3, 6), (3, 7), (3, 6008), (4, 1), (4, 4000), (6, 1), (8, 7), (8, 8), (8, 9), (8, 10), (8, 6004), (8, 6005), (8, 6006), (9, 0), (9, 1), (9, 2), (9, 3), (9, 4), (9, 5), (9, 8), (9, 9), (9, 10), (9, 11), (9, 12), (20, 1000), (22, 5000), (24, 1000), (25, 7000)] g h0 h9 := by
  unfold pX12_trialCycles_b42 at hf
  obtain ⟨r1, e1⟩ : ∃ z, z = (hR h this 7) := ⟨_, rfl⟩; replace hf := lt_i hf r1 e1
  obtain ⟨r2, e2⟩ : ∃ z, z = (hR h this 11) := ⟨_, rfl⟩; replace hf := lt_i hf r2 e2
  obtain ⟨r3, e3⟩ : ∃ z, z = (hR h this 13) := ⟨_, rfl⟩; replace hf := lt_i hf r3 e3
  replace hf := nn_i hf; obtain ⟨a1, e4, hf⟩ := hf
  replace hf := tg_i hf; obtain ⟨t5, hf⟩ := hf
  replace hf := nn_i hf; obtain ⟨a2, e6, hf⟩ := hf
  replace hf := nn_i hf; obtain ⟨a3, e7, hf⟩ := hf
  replace hf := bd_i hf; obtain ⟨h5, q8, hf⟩ := hf
  have F9 := FrC.trans F0 (pX9_perform_fr PE F0.1 ((fun b hb => F0.1 _ _ b P_this (e1.symm.trans hb)) _ e4) ((fun b hb => F0.1 _ _ b P_this (e2.symm.trans hb)) _ e6) ((fun b hb => F0.1 _ _ b P_this (e3.symm.trans hb)) _ e7) q8) (by decide)
  obtain ⟨r7, e10⟩ : ∃ z, z = (hR h5 this 13) := ⟨_, rfl⟩; replace hf := lt_i hf r7 e10
  replace hf := nn_i hf; obtain ⟨a7, e11, hf⟩ := hf
  replace hf := tg_i hf; obtain ⟨t12, hf⟩ := hf
  by_cases c13 : (hI h5 a7 3) = 0
  · rw [if_pos c13] at hf
    obtain ⟨r10, e14⟩ : ∃ z, z = (hR h5 this 13) := ⟨_, rfl⟩; replace hf := lt_i hf r10 e14
    replace hf := nn_i hf; obtain ⟨a10, e15, hf⟩ := hf
    replace hf := tg_i hf; obtain ⟨t16, hf⟩ := hf
    cases hf
    exact F9
  · rw [if_neg c13] at hf
    cases hf
    exact F9
set_option maxRecDepth 10000 in
set_option maxHeartbeats 2000000 in
theorem pX12_trialCycles_fr {P : Nat → Prop} {E : EC} {g : MT} {h : CT} {this : Nat} {p1 : Int32} {r9 : Int32} {h9 : CT} (PE : PEc P E) (hc : Cl P h) (P_this : P this) (hf : pX12_trialCycles E g h this p1 = some (r9, h9)) : FrC P [(1, 4), (1, 2003), (3, 4), (3, 5), (3, 6), (3, 7), (3, 6008), (4, 1), (4, 4000), (6, 1), (8, 7), (8, 8), (8, 9), (8, 10), (8, 6004), (8, 6005), (8, 6006), (9, 0), (9, 1), (9, 2), (9, 3), (9, 4), (9, 5), (9, 8), (9, 9), (9, 10), (9, 11), (9, 12), (20, 1000), (22, 5000), (24, 1000), (25, 7000)] g h h9 := by
  have F0 : FrC P [(1, 4), (1, 2003), (3, 4), (3, 5), (3, 6), (3, 7), (3, 6008), (4, 1), (4, 4000), (6, 1), (8, 7), (8, 8), (8, 9), (8, 10), (8, 6004), (8, 6005), (8, 6006), (9, 0), (9, 1), (9, 2), (9, 3), (9, 4), (9, 5), (9, 8), (9, 9), (9, 10), (9, 11), (9, 12), (20, 1000), (22, 5000), (24, 1000), (25, 7000)] g h h := FrC.rf hc
  unfold pX12_trialCycles at hf
  replace hf := tg_i hf; obtain ⟨t1, hf⟩ := hf
  obtain ⟨r1, e2⟩ : ∃ z, z = (hR h this 11) := ⟨_, rfl⟩; replace hf := lt_i hf r1 e2
  obtain ⟨r2, e3⟩ : ∃ z, z = (hR h this 4) := ⟨_, rfl⟩; replace hf := lt_i hf r2 e3
  replace hf := nn_i hf; obtain ⟨a1, e4, hf⟩ := hf
  replace hf := tg_i hf; obtain ⟨t5, hf⟩ := hf
  replace hf := nn_i hf; obtain ⟨a2, e6, hf⟩ := hf
  replace hf := bd_i hf; obtain ⟨h4, q7, hf⟩ := hf
  have F8 := FrC.trans F0 (pX3_copyFrom_fr F0.1 ((fun b hb => F0.1 _ _ b P_this (e2.symm.trans hb)) _ e4) ((fun b hb => F0.1 _ _ b P_this (e3.symm.trans hb)) _ e6) q7) (by decide)
  by_cases c9 : p1 = (-1)
  · rw [if_pos c9] at hf
    exact pX12_trialCycles_b42_fr t1 PE P_this F8 hf
  · rw [if_neg c9] at hf
    obtain ⟨r7, e10⟩ : ∃ z, z = (hR h4 this 12) := ⟨_, rfl⟩; replace hf := lt_i hf r7 e10
    obtain ⟨r8, e11⟩ : ∃ z, z = (hR h4 this 4) := ⟨_, rfl⟩; replace hf := lt_i hf r8 e11
    replace hf := nn_i hf; obtain ⟨a8, e12, hf⟩ := hf
    replace hf := tg_i hf; obtain ⟨t13, hf⟩ := hf
    obtain ⟨r10, e14⟩ : ∃ z, z = (hR h4 a8 8) := ⟨_, rfl⟩; replace hf := lt_i hf r10 e14
    replace hf := nn_i hf; obtain ⟨a7, e15, hf⟩ := hf
    replace hf := tg_i hf; obtain ⟨t16, hf⟩ := hf
    replace hf := nn_i hf; obtain ⟨a10, e17, hf⟩ := hf
    replace hf := bd_i hf; obtain ⟨h12, q18, hf⟩ := hf
    have F19 := FrC.trans F8 (pX7_copySwapped_fr F8.1 ((fun b hb => F8.1 _ _ b P_this (e10.symm.trans hb)) _ e15) ((fun b hb => F8.1 _ _ b ((fun b hb => F8.1 _ _ b P_this (e11.symm.trans hb)) _ e12) (e14.symm.trans hb)) _ e17) q18) (by decide)
    obtain ⟨r14, e20⟩ : ∃ z, z = (hR h12 this 11) := ⟨_, rfl⟩; replace hf := lt_i hf r14 e20
    obtain ⟨r15, e21⟩ : ∃ z, z = (hR h12 this 12) := ⟨_, rfl⟩; replace hf := lt_i hf r15 e21
    replace hf := nn_i hf; obtain ⟨a14, e22, hf⟩ := hf
    replace hf := tg_i hf; obtain ⟨t23, hf⟩ := hf
    obtain ⟨h17, e24⟩ : ∃ z, z = (sR h12 a14 8 r15) := ⟨_, rfl⟩; replace hf := lt_i hf h17 e24
    have F25 := FrC.sR F19 ((fun b hb => F19.1 _ _ b P_this (e20.symm.trans hb)) _ e22) t23 (Or.inl (by decide)) (fun b hb => F19.1 _ _ b P_this (e21.symm.trans hb)) e24
    exact pX12_trialCycles_b42_fr t1 PE P_this F25 hf
set_option maxRecDepth 10000 in
set_option maxHeartbeats 2000000 in
theorem pX12_swapGain_b24_fr {P : Nat → Prop} {E : EC} {g : MT} {this : Nat} {p1 : Int32} {h : CT} {h0 : CT} {r9 : Int32} {h9 : CT} (t0 : gT g this = 11) (PE : PEc P E) (P_this : P this) (F0 : FrC P [(1, 4), (1, 2003), (3, 4), (3, 5), (3, 6), (3, 7), (3, 6008), (4, 1), (4, 4000), (6, 1), (8, 7), (8, 8), (8, 9), (8, 10), (8, 6004), (8, 6005), (8, 6006), (9, 0), (9, 1), (9, 2), (9, 3), (9, 4), (9, 5), (9, 8), (9, 9), (9, 10), (9, 11), (9, 12), (11, 19), (20, 1000), (22, 5000), (24, 1000), (25, 7000)] g h0 h) (hf : pX12_swapGain_b24 E g this p1 h = some (r9, h9)) : FrC P [(1, 4), (1, 2003), (3, 4), (3, 5), (3, 6), (3, 7), (3, 6008), (4, 1), (4, 4000), (6, 1), (8, 7), (8, 8), (8, 9), (8, 10), (8, 6004), (8, 6005), (8, 6006), (9, 0), (9, 1), (9, 2), (9, 3), (9, 4), (9, 5), (9, 8), (9, 9), (9, 10), (9, 11), (9, 12), (11, 19), (20, 1000), (22, 5000), (24, 1000), (25, 7000)] g h0 h9 := by
  unfold pX12_swapGain_b24 at hf
  replace hf := bd2_i hf; obtain ⟨x3, h1, q1, hf⟩ := hf
  have F2 := FrC.trans F0 (pX12_refuse_fr F0.1 P_this q1) (by decide)
  cases hf
  exact F2
set_option maxRecDepth 10000 in
set_option maxHeartbeats 2000000 in
theorem pX12_swapGain_b71_fr {P : Nat → Prop} {E : EC} {g : MT} {this : Nat} {p1 : Int32} {l2 : Int32} {s0 : Int32} {h : CT} {h0 : CT} {r9 : Int32} {h9 : CT} (t0 : gT g this = 11) (PE : PEc P E) (P_this : P this) (F0 : FrC P [(1, 4), (1, 2003), (3, 4), (3, 5), (3, 6), (3, 7), (3, 6008), (4, 1), (4, 4000), (6, 1), (8, 7), (8, 8), (8, 9), (8, 10), (8, 6004), (8, 6005), (8, 6006), (9, 0), (9, 1), (9, 2), (9, 3), (9, 4), (9, 5), (9, 8), (9, 9), (9, 10), (9, 11), (9, 12), (11, 19), (20, 1000), (22, 5000), (24, 1000), (25, 7000)] g h0 h) (hf : pX12_swapGain_b71 E g this p1 l2 s0 h = some (r9, h9)) : FrC P [(1, 4), (1, 2003), (3, 4), (3, 5), (3, 6), (3, 7), (3, 6008), (4, 1), (4, 4000), (6, 1), (8, 7), (8, 8), (8, 9), (8, 10), (8, 6004), (8, 6005), (8, 6006), (9, 0), (9, 1), (9, 2), (9, 3), (9, 4), (9, 5), (9, 8), (9, 9), (9, 10), (9, 11), (9, 12), (11, 19), (20, 1000), (22, 5000), (24, 1000), (25, 7000)] g h0 h9 := by
  unfold pX12_swapGain_b71 at hf
  by_cases c1 : s0 = (-1)
  · rw [if_pos c1] at hf
    replace hf := bd2_i hf; obtain ⟨x7, h5, q2, hf⟩ := hf
    have F3 := FrC.trans F0 (pX12_refuse_fr F0.1 P_this q2) (by decide)
    cases hf
    exact F3
  · rw [if_neg c1] at hf
    replace hf := bd2_i hf; obtain ⟨x4, h2, q4, hf⟩ := hf
    have F5 := FrC.trans F0 (pX12_answer_fr F0.1 P_this q4) (by decide)
    cases hf
    exact F5
set_option maxRecDepth 10000 in
set_option maxHeartbeats 2000000 in
theorem pX12_swapGain_fr {P : Nat → Prop} {E : EC} {g : MT} {h : CT} {this : Nat} {p1 : Int32} {r9 : Int32} {h9 : CT} (PE : PEc P E) (hc : Cl P h) (P_this : P this) (hf : pX12_swapGain E g h this p1 = some (r9, h9)) : FrC P [(1, 4), (1, 2003), (3, 4), (3, 5), (3, 6), (3, 7), (3, 6008), (4, 1), (4, 4000), (6, 1), (8, 7), (8, 8), (8, 9), (8, 10), (8, 6004), (8, 6005), (8, 6006), (9, 0), (9, 1), (9, 2), (9, 3), (9, 4), (9, 5), (9, 8), (9, 9), (9, 10), (9, 11), (9, 12), (11, 19), (20, 1000), (22, 5000), (24, 1000), (25, 7000)] g h h9 := by
  have F0 : FrC P [(1, 4), (1, 2003), (3, 4), (3, 5), (3, 6), (3, 7), (3, 6008), (4, 1), (4, 4000), (6, 1), (8, 7), (8, 8), (8, 9), (8, 10), (8, 6004), (8, 6005), (8, 6006), (9, 0), (9, 1), (9, 2), (9, 3), (9, 4), (9, 5), (9, 8), (9, 9), (9, 10), (9, 11), (9, 12), (11, 19), (20, 1000), (22, 5000), (24, 1000), (25, 7000)] g h h := FrC.rf hc
  unfold pX12_swapGain at hf
  replace hf := tg_i hf; obtain ⟨t1, hf⟩ := hf
  replace hf := bd_i hf; obtain ⟨x1, q2, hf⟩ := hf
  by_cases c3 : x1 = 0
  · rw [if_pos c3] at hf
    exact pX12_swapGain_b24_fr t1 PE P_this F0 hf
  · rw [if_neg c3] at hf
    obtain ⟨r4, e4⟩ : ∃ z, z = (hR h this 4) := ⟨_, rfl⟩; replace hf := lt_i hf r4 e4
    replace hf := nn_i hf; obtain ⟨a4, e5, hf⟩ := hf
    replace hf := tg_i hf; obtain ⟨t6, hf⟩ := hf
    obtain ⟨r6, e7⟩ : ∃ z, z = (hR h a4 8) := ⟨_, rfl⟩; replace hf := lt_i hf r6 e7
    replace hf := nn_i hf; obtain ⟨a6, e8, hf⟩ := hf
    replace hf := tg_i hf; obtain ⟨t9, hf⟩ := hf
    by_cases c10 : p1 < ((hI h a6 1) - 1)
    · rw [if_pos c10] at hf
      obtain ⟨r9, e11⟩ : ∃ z, z = (hR h this 4) := ⟨_, rfl⟩; replace hf := lt_i hf r9 e11
      replace hf := nn_i hf; obtain ⟨a9, e12, hf⟩ := hf
      replace hf := tg_i hf; obtain ⟨t13, hf⟩ := hf
      obtain ⟨r11, e14⟩ : ∃ z, z = (hR h a9 8) := ⟨_, rfl⟩; replace hf := lt_i hf r11 e14
      replace hf := nn_i hf; obtain ⟨a11, e15, hf⟩ := hf
      replace hf := tg_i hf; obtain ⟨t16, hf⟩ := hf
      replace hf := bd_i hf; obtain ⟨x13, q17, hf⟩ := hf
      by_cases c18 : x13 = 0
      · rw [if_pos c18] at hf
        replace hf := bd2_i hf; obtain ⟨x25, h23, q19, hf⟩ := hf
        have F20 := FrC.trans F0 (pX12_refuse_fr F0.1 P_this q19) (by decide)
        cases hf
        exact F20
      · rw [if_neg c18] at hf
        replace hf := bd2_i hf; obtain ⟨x18, h16, q21, hf⟩ := hf
        have F22 := FrC.trans F0 (pX12_trialCycles_fr PE F0.1 P_this q21) (by decide)
        by_cases c23 : x18 = (-1)
        · rw [if_pos c23] at hf
          exact pX12_swapGain_b71_fr t1 PE P_this F22 hf
        · rw [if_neg c23] at hf
          replace hf := bd2_i hf; obtain ⟨x22, h20, q24, hf⟩ := hf
          have F25 := FrC.trans F22 (pX12_trialCycles_fr PE F22.1 P_this q24) (by decide)
          exact pX12_swapGain_b71_fr t1 PE P_this F25 hf
    · rw [if_neg c10] at hf
      exact pX12_swapGain_b24_fr t1 PE P_this F0 hf
set_option maxRecDepth 10000 in
set_option maxHeartbeats 2000000 in
theorem pX12_bestSwap_b108_fr {P : Nat → Prop} {E : EC} {g : MT} {this : Nat} {l1 : Int32} {h : CT} {h0 : CT} {r9 : Int32} {h9 : CT} (t0 : gT g this = 11) (PE : PEc P E) (P_this : P this) (F0 : FrC P [(1, 4), (1, 2003), (3, 4), (3, 5), (3, 6), (3, 7), (3, 6008), (4, 1), (4, 4000), (6, 1), (8, 7), (8, 8), (8, 9), (8, 10), (8, 6004), (8, 6005), (8, 6006), (9, 0), (9, 1), (9, 2), (9, 3), (9, 4), (9, 5), (9, 8), (9, 9), (9, 10), (9, 11), (9, 12), (11, 19), (20, 1000), (22, 5000), (24, 1000), (25, 7000)] g h0 h) (hf : pX12_bestSwap_b108 E g this l1 h = some (r9, h9)) : FrC P [(1, 4), (1, 2003), (3, 4), (3, 5), (3, 6), (3, 7), (3, 6008), (4, 1), (4, 4000), (6, 1), (8, 7), (8, 8), (8, 9), (8, 10), (8, 6004), (8, 6005), (8, 6006), (9, 0), (9, 1), (9, 2), (9, 3), (9, 4), (9, 5), (9, 8), (9, 9), (9, 10), (9, 11), (9, 12), (11, 19), (20, 1000), (22, 5000), (24, 1000), (25, 7000)] g h0 h9 := by
  unfold pX12_bestSwap_b108 at hf
  by_cases c1 : l1 = (-1)
  · rw [if_pos c1] at hf
    replace hf := bd2_i hf; obtain ⟨x7, h5, q2, hf⟩ := hf
    have F3 := FrC.trans F0 (pX12_refuse_fr F0.1 P_this q2) (by decide)
    cases hf
    exact F3
  · rw [if_neg c1] at hf
    replace hf := bd2_i hf; obtain ⟨x4, h2, q4, hf⟩ := hf
    have F5 := FrC.trans F0 (pX12_answer_fr F0.1 P_this q4) (by decide)
    cases hf
    exact F5
set_option maxRecDepth 10000 in
set_option maxHeartbeats 2000000 in
theorem pX12_bestSwap_b102_fr {P : Nat → Prop} {E : EC} {g : MT} {this : Nat} {k31 : Int32 → Int32 → Int32 → Int32 → CT → Option ((Int32) × CT)} {l1 : Int32} {l2 : Int32} {l3 : Int32} {l4 : Int32} {h : CT} {h0 : CT} {r9 : Int32} {h9 : CT} (t0 : gT g this = 11) (PE : PEc P E) (P_this : P this) (hk31 : ∀ (v0 : Int32) (v1 : Int32) (v2 : Int32) (v3 : Int32) (v4 : CT), FrC P [(1, 4), (1, 2003), (3, 4), (3, 5), (3, 6), (3, 7), (3, 6008), (4, 1), (4, 4000), (6, 1), (8, 7), (8, 8), (8, 9), (8, 10), (8, 6004), (8, 6005), (8, 6006), (9, 0), (9, 1), (9, 2), (9, 3), (9, 4), (9, 5), (9, 8), (9, 9), (9, 10), (9, 11), (9, 12), (11, 19), (20, 1000), (22, 5000), (24, 1000), (25, 7000)] g h0 v4 → k31 v0 v1 v2 v3 v4 = some (r9, h9) → FrC P [(1, 4), (1, 2003), (3, 4), (3, 5), (3, 6), (3, 7), (3, 6008), (4, 1), (4, 4000), (6, 1), (8, 7), (8, 8), (8, 9), (8, 10), (8, 6004), (8, 6005), (8, 6006), (9, 0), (9, 1), (9, 2), (9, 3), (9, 4), (9, 5), (9, 8), (9, 9), (9, 10), (9, 11), (9, 12), (11, 19), (20, 1000), (22, 5000), (24, 1000), (25, 7000)] g h0 h9) (F0 : FrC P [(1, 4), (1, 2003), (3, 4), (3, 5), (3, 6), (3, 7), (3, 6008), (4, 1), (4, 4000), (6, 1), (8, 7), (8, 8), (8, 9), (8, 10), (8, 6004), (8, 6005), (8, 6006), (9, 0), (9, 1), (9, 2), (9, 3), (9, 4), (9, 5), (9, 8), (9, 9), (9, 10), (9, 11), (9, 12), (11, 19), (20, 1000), (22, 5000), (24, 1000), (25, 7000)] g h0 h) (hf : pX12_bestSwap_b102 E g this k31 l1 l2 l3 l4 h = some (r9, h9)) : FrC P [(1, 4), (1, 2003), (3, 4), (3, 5), (3, 6), (3, 7), (3, 6008), (4, 1), (4, 4000), (6, 1), (8, 7), (8, 8), (8, 9), (8, 10), (8, 6004), (8, 6005), (8, 6006), (9, 0), (9, 1), (9, 2), (9, 3), (9, 4), (9, 5), (9, 8), (9, 9), (9, 10), (9, 11), (9, 12), (11, 19), (20, 1000), (22, 5000), (24, 1000), (25, 7000)] g h0 h9 := by
  unfold pX12_bestSwap_b102 at hf
  obtain ⟨x1, e1⟩ : ∃ z, z = (l4 + 1) := ⟨_, rfl⟩; replace hf := lt_i hf x1 e1
  exact hk31 _ _ _ _ _ F0 hf
set_option maxRecDepth 10000 in
set_option maxHeartbeats 2000000 in
theorem pX12_bestSwap_b78_fr {P : Nat → Prop} {E : EC} {g : MT} {this : Nat} {k31 : Int32 → Int32 → Int32 → Int32 → CT → Option ((Int32) × CT)} {l1 : Int32} {l2 : Int32} {l3 : Int32} {l4 : Int32} {s0 : Int32} {h : CT} {h0 : CT} {r9 : Int32} {h9 : CT} (t0 : gT g this = 11) (PE : PEc P E) (P_this : P this) (hk31 : ∀ (v0 : Int32) (v1 : Int32) (v2 : Int32) (v3 : Int32) (v4 : CT), FrC P [(1, 4), (1, 2003), (3, 4), (3, 5), (3, 6), (3, 7), (3, 6008), (4, 1), (4, 4000), (6, 1), (8, 7), (8, 8), (8, 9), (8, 10), (8, 6004), (8, 6005), (8, 6006), (9, 0), (9, 1), (9, 2), (9, 3), (9, 4), (9, 5), (9, 8), (9, 9), (9, 10), (9, 11), (9, 12), (11, 19), (20, 1000), (22, 5000), (24, 1000), (25, 7000)] g h0 v4 → k31 v0 v1 v2 v3 v4 = some (r9, h9) → FrC P [(1, 4), (1, 2003), (3, 4), (3, 5), (3, 6), (3, 7), (3, 6008), (4, 1), (4, 4000), (6, 1), (8, 7), (8, 8), (8, 9), (8, 10), (8, 6004), (8, 6005), (8, 6006), (9, 0), (9, 1), (9, 2), (9, 3), (9, 4), (9, 5), (9, 8), (9, 9), (9, 10), (9, 11), (9, 12), (11, 19), (20, 1000), (22, 5000), (24, 1000), (25, 7000)] g h0 h9) (F0 : FrC P [(1, 4), (1, 2003), (3, 4), (3, 5), (3, 6), (3, 7), (3, 6008), (4, 1), (4, 4000), (6, 1), (8, 7), (8, 8), (8, 9), (8, 10), (8, 6004), (8, 6005), (8, 6006), (9, 0), (9, 1), (9, 2), (9, 3), (9, 4), (9, 5), (9, 8), (9, 9), (9, 10), (9, 11), (9, 12), (11, 19), (20, 1000), (22, 5000), (24, 1000), (25, 7000)] g h0 h) (hf : pX12_bestSwap_b78 E g this k31 l1 l2 l3 l4 s0 h = some (r9, h9)) : FrC P [(1, 4), (1, 2003), (3, 4), (3, 5), (3, 6), (3, 7), (3, 6008), (4, 1), (4, 4000), (6, 1), (8, 7), (8, 8), (8, 9), (8, 10), (8, 6004), (8, 6005), (8, 6006), (9, 0), (9, 1), (9, 2), (9, 3), (9, 4), (9, 5), (9, 8), (9, 9), (9, 10), (9, 11), (9, 12), (11, 19), (20, 1000), (22, 5000), (24, 1000), (25, 7000)] g h0 h9 := by
  unfold pX12_bestSwap_b78 at hf
  by_cases c1 : s0 = (-1)
  · rw [if_pos c1] at hf
    exact pX12_bestSwap_b102_fr t0 PE P_this hk31 F0 hf
  · rw [if_neg c1] at hf
    by_cases c2 : (l3 - s0) ≤ l2
    · rw [if_pos c2] at hf
      exact pX12_bestSwap_b102_fr t0 PE P_this hk31 F0 hf
    · rw [if_neg c2] at hf
      obtain ⟨x3, e3⟩ : ∃ z, z = (l3 - s0) := ⟨_, rfl⟩; replace hf := lt_i hf x3 e3
      exact pX12_bestSwap_b102_fr t0 PE P_this hk31 F0 hf
