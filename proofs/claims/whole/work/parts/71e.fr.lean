/-! what functions leave as it was (written by wip/whole/frames.py) -/
set_option maxRecDepth 10000 in
set_option maxHeartbeats 2000000 in
theorem pX13_takenAt_b87_fr {P : Nat → Prop} {g : MT} {this : Nat} {p1 : Int32} {p2 : Int32} {p3 : Int32} {p4 : Int32} {l5 : Int32} {l6 : Int32} {h : CT} {h0 : CT} {r9 : Int32} {h9 : CT} (t0 : gT g this = 12) (P_this : P this) (F0 : FrC P [(12, 35), (20, 1000)] g h0 h) (hf : pX13_takenAt_b87 g this p1 p2 p3 p4 l5 l6 h = some (r9, h9)) : FrC P [(12, 35), (20, 1000)] g h0 h9 := by
  unfold pX13_takenAt_b87 at hf
  by_cases c1 : (pX13_writesD l5) = 0
  · rw [if_pos c1] at hf
    exact pX13_takenAt_b143_fr t0 P_this F0 hf
  · rw [if_neg c1] at hf
    replace hf := bd_i hf; obtain ⟨x2, q2, hf⟩ := hf
    obtain ⟨x4, e3⟩ : ∃ z, z = ((16 * x2) + p2) := ⟨_, rfl⟩; replace hf := lt_i hf x4 e3
    obtain ⟨r5, e4⟩ : ∃ z, z = (hR h this 23) := ⟨_, rfl⟩; replace hf := lt_i hf r5 e4
    replace hf := nn_i hf; obtain ⟨a5, e5, hf⟩ := hf
    replace hf := tg_i hf; obtain ⟨t6, hf⟩ := hf
    replace hf := (ix_i hf).2
    obtain ⟨r8, e7⟩ : ∃ z, z = (hR h this 24) := ⟨_, rfl⟩; replace hf := lt_i hf r8 e7
    replace hf := nn_i hf; obtain ⟨a8, e8, hf⟩ := hf
    replace hf := tg_i hf; obtain ⟨t9, hf⟩ := hf
    replace hf := (ix_i hf).2
    obtain ⟨x11, e10⟩ : ∃ z, z = (pJ9_max_7cf53 l6 (((pJ9_max_7cf53 (hI h a5 (Int32.toNatClampNeg x4)) (hI h a8 (Int32.toNatClampNeg x4))) + 1) - (pX13_latencyOf (pX13_unitOf l5)))) := ⟨_, rfl⟩; replace hf := lt_i hf x11 e10
    exact pX13_takenAt_b143_fr t0 P_this F0 hf
set_option maxRecDepth 10000 in
set_option maxHeartbeats 2000000 in
theorem pX13_takenAt_b64_fr {P : Nat → Prop} {g : MT} {this : Nat} {p1 : Int32} {p2 : Int32} {p3 : Int32} {p4 : Int32} {l5 : Int32} {l6 : Int32} {h : CT} {h0 : CT} {r9 : Int32} {h9 : CT} (t0 : gT g this = 12) (P_this : P this) (F0 : FrC P [(12, 35), (20, 1000)] g h0 h) (hf : pX13_takenAt_b64 g this p1 p2 p3 p4 l5 l6 h = some (r9, h9)) : FrC P [(12, 35), (20, 1000)] g h0 h9 := by
  unfold pX13_takenAt_b64 at hf
  by_cases c1 : (pX13_readsD l5) = 0
  · rw [if_pos c1] at hf
    exact pX13_takenAt_b87_fr t0 P_this F0 hf
  · rw [if_neg c1] at hf
    replace hf := bd_i hf; obtain ⟨x2, q2, hf⟩ := hf
    replace hf := bd_i hf; obtain ⟨x4, q3, hf⟩ := hf
    exact pX13_takenAt_b87_fr t0 P_this F0 hf
set_option maxRecDepth 10000 in
set_option maxHeartbeats 2000000 in
theorem pX13_takenAt_b41_fr {P : Nat → Prop} {g : MT} {this : Nat} {p1 : Int32} {p2 : Int32} {p3 : Int32} {p4 : Int32} {l5 : Int32} {l6 : Int32} {h : CT} {h0 : CT} {r9 : Int32} {h9 : CT} (t0 : gT g this = 12) (P_this : P this) (F0 : FrC P [(12, 35), (20, 1000)] g h0 h) (hf : pX13_takenAt_b41 g this p1 p2 p3 p4 l5 l6 h = some (r9, h9)) : FrC P [(12, 35), (20, 1000)] g h0 h9 := by
  unfold pX13_takenAt_b41 at hf
  by_cases c1 : (pX13_readsB l5) = 0
  · rw [if_pos c1] at hf
    exact pX13_takenAt_b64_fr t0 P_this F0 hf
  · rw [if_neg c1] at hf
    replace hf := bd_i hf; obtain ⟨x2, q2, hf⟩ := hf
    replace hf := bd_i hf; obtain ⟨x4, q3, hf⟩ := hf
    exact pX13_takenAt_b64_fr t0 P_this F0 hf
set_option maxRecDepth 10000 in
set_option maxHeartbeats 2000000 in
theorem pX13_takenAt_fr {P : Nat → Prop} {g : MT} {h : CT} {this : Nat} {p1 : Int32} {p2 : Int32} {p3 : Int32} {p4 : Int32} {r9 : Int32} {h9 : CT} (hc : Cl P h) (P_this : P this) (hf : pX13_takenAt g h this p1 p2 p3 p4 = some (r9, h9)) : FrC P [(12, 35), (20, 1000)] g h h9 := by
  have F0 : FrC P [(12, 35), (20, 1000)] g h h := FrC.rf hc
  unfold pX13_takenAt at hf
  replace hf := tg_i hf; obtain ⟨t1, hf⟩ := hf
  replace hf := bd_i hf; obtain ⟨x1, q2, hf⟩ := hf
  obtain ⟨x3, e3⟩ : ∃ z, z = (pJ9_max_7cf53 p3 (p4 + 1)) := ⟨_, rfl⟩; replace hf := lt_i hf x3 e3
  by_cases c4 : (pX13_readsA x1) = 0
  · rw [if_pos c4] at hf
    exact pX13_takenAt_b41_fr t1 P_this F0 hf
  · rw [if_neg c4] at hf
    replace hf := bd_i hf; obtain ⟨x5, q5, hf⟩ := hf
    replace hf := bd_i hf; obtain ⟨x7, q6, hf⟩ := hf
    exact pX13_takenAt_b41_fr t1 P_this F0 hf
set_option maxRecDepth 10000 in
set_option maxHeartbeats 2000000 in
theorem pX13_reads_fr {P : Nat → Prop} {g : MT} {h : CT} {this : Nat} {p1 : Int32} {p2 : Int32} {p3 : Int32} {h9 : CT} (hc : Cl P h) (P_this : P this) (hf : pX13_reads g h this p1 p2 p3 = some h9) : FrC P [(20, 1000)] g h h9 := by
  have F0 : FrC P [(20, 1000)] g h h := FrC.rf hc
  unfold pX13_reads at hf
  replace hf := tg_i hf; obtain ⟨t1, hf⟩ := hf
  obtain ⟨r1, e2⟩ : ∃ z, z = (hR h this 24) := ⟨_, rfl⟩; replace hf := lt_i hf r1 e2
  obtain ⟨r2, e3⟩ : ∃ z, z = (hR h this 24) := ⟨_, rfl⟩; replace hf := lt_i hf r2 e3
  replace hf := nn_i hf; obtain ⟨a2, e4, hf⟩ := hf
  replace hf := tg_i hf; obtain ⟨t5, hf⟩ := hf
  replace hf := (ix_i hf).2
  replace hf := nn_i hf; obtain ⟨a1, e6, hf⟩ := hf
  replace hf := tg_i hf; obtain ⟨t7, hf⟩ := hf
  replace hf := (ix_i hf).2
  obtain ⟨h7, e8⟩ : ∃ z, z = (sI h a1 (Int32.toNatClampNeg ((16 * p1) + p2)) (pJ9_max_7cf53 (hI h a2 (Int32.toNatClampNeg ((16 * p1) + p2))) p3)) := ⟨_, rfl⟩; replace hf := lt_i hf h7 e8
  have F9 := FrC.sI F0 ((fun b hb => F0.1 _ _ b P_this (e2.symm.trans hb)) _ e6) t7 (Or.inr (by decide)) e8
  cases hf
  exact F9
set_option maxRecDepth 10000 in
set_option maxHeartbeats 2000000 in
theorem pX13_readsAll_b48_fr {P : Nat → Prop} {g : MT} {this : Nat} {p1 : Int32} {p2 : Int32} {p3 : Int32} {l4 : Int32} {h : CT} {h0 : CT} {h9 : CT} (t0 : gT g this = 12) (P_this : P this) (F0 : FrC P [(20, 1000)] g h0 h) (hf : pX13_readsAll_b48 g this p1 p2 p3 l4 h = some h9) : FrC P [(20, 1000)] g h0 h9 := by
  unfold pX13_readsAll_b48 at hf
  by_cases c1 : (pX13_readsD l4) = 0
  · rw [if_pos c1] at hf
    cases hf
    exact F0
  · rw [if_neg c1] at hf
    replace hf := bd_i hf; obtain ⟨x2, q2, hf⟩ := hf
    replace hf := bd_i hf; obtain ⟨h4, q3, hf⟩ := hf
    have F4 := FrC.trans F0 (pX13_reads_fr F0.1 P_this q3) (by decide)
    cases hf
    exact F4
set_option maxRecDepth 10000 in
set_option maxHeartbeats 2000000 in
theorem pX13_readsAll_b28_fr {P : Nat → Prop} {g : MT} {this : Nat} {p1 : Int32} {p2 : Int32} {p3 : Int32} {l4 : Int32} {h : CT} {h0 : CT} {h9 : CT} (t0 : gT g this = 12) (P_this : P this) (F0 : FrC P [(20, 1000)] g h0 h) (hf : pX13_readsAll_b28 g this p1 p2 p3 l4 h = some h9) : FrC P [(20, 1000)] g h0 h9 := by
  unfold pX13_readsAll_b28 at hf
  by_cases c1 : (pX13_readsB l4) = 0
  · rw [if_pos c1] at hf
    exact pX13_readsAll_b48_fr t0 P_this F0 hf
  · rw [if_neg c1] at hf
    replace hf := bd_i hf; obtain ⟨x2, q2, hf⟩ := hf
    replace hf := bd_i hf; obtain ⟨h4, q3, hf⟩ := hf
    have F4 := FrC.trans F0 (pX13_reads_fr F0.1 P_this q3) (by decide)
    exact pX13_readsAll_b48_fr t0 P_this F4 hf
set_option maxRecDepth 10000 in
set_option maxHeartbeats 2000000 in
theorem pX13_readsAll_fr {P : Nat → Prop} {g : MT} {h : CT} {this : Nat} {p1 : Int32} {p2 : Int32} {p3 : Int32} {h9 : CT} (hc : Cl P h) (P_this : P this) (hf : pX13_readsAll g h this p1 p2 p3 = some h9) : FrC P [(20, 1000)] g h h9 := by
  have F0 : FrC P [(20, 1000)] g h h := FrC.rf hc
  unfold pX13_readsAll at hf
  replace hf := tg_i hf; obtain ⟨t1, hf⟩ := hf
  replace hf := bd_i hf; obtain ⟨x1, q2, hf⟩ := hf
  by_cases c3 : (pX13_readsA x1) = 0
  · rw [if_pos c3] at hf
    exact pX13_readsAll_b28_fr t1 P_this F0 hf
  · rw [if_neg c3] at hf
    replace hf := bd_i hf; obtain ⟨x4, q4, hf⟩ := hf
    replace hf := bd_i hf; obtain ⟨h6, q5, hf⟩ := hf
    have F6 := FrC.trans F0 (pX13_reads_fr F0.1 P_this q5) (by decide)
    exact pX13_readsAll_b28_fr t1 P_this F6 hf
set_option maxRecDepth 10000 in
set_option maxHeartbeats 2000000 in
theorem pX13_comes_fr {P : Nat → Prop} {g : MT} {h : CT} {this : Nat} {p1 : Int32} {p2 : Int32} {p3 : UInt64} {h9 : CT} (hc : Cl P h) (P_this : P this) (hf : pX13_comes g h this p1 p2 p3 = some h9) : FrC P [(20, 1000), (22, 5000)] g h h9 := by
  have F0 : FrC P [(20, 1000), (22, 5000)] g h h := FrC.rf hc
  unfold pX13_comes at hf
  replace hf := tg_i hf; obtain ⟨t1, hf⟩ := hf
  replace hf := bd_i hf; obtain ⟨h1, q2, hf⟩ := hf
  have F3 := FrC.trans F0 (pX13_there_fr F0.1 P_this q2) (by decide)
  obtain ⟨r3, e4⟩ : ∃ z, z = (hR h1 this 20) := ⟨_, rfl⟩; replace hf := lt_i hf r3 e4
  replace hf := nn_i hf; obtain ⟨a3, e5, hf⟩ := hf
  replace hf := tg_i hf; obtain ⟨t6, hf⟩ := hf
  replace hf := (ix_i hf).2
  obtain ⟨h6, e7⟩ : ∃ z, z = (sD h1 a3 (Int32.toNatClampNeg ((16 * p1) + p2)) p3) := ⟨_, rfl⟩; replace hf := lt_i hf h6 e7
  have F8 := FrC.sD F3 ((fun b hb => F3.1 _ _ b P_this (e4.symm.trans hb)) _ e5) t6 (Or.inr (by decide)) e7
  cases hf
  exact F8
set_option maxRecDepth 10000 in
set_option maxHeartbeats 2000000 in
theorem pX13_compares_b100_fr {P : Nat → Prop} {g : MT} {this : Nat} {p1 : Int32} {p2 : Int32} {s0 : Int32} {h : CT} {h0 : CT} {h9 : CT} (t0 : gT g this = 12) (P_this : P this) (F0 : FrC P [(20, 1000)] g h0 h) (hf : pX13_compares_b100 g this p1 p2 s0 h = some h9) : FrC P [(20, 1000)] g h0 h9 := by
  unfold pX13_compares_b100 at hf
  obtain ⟨r1, e1⟩ : ∃ z, z = (hR h this 19) := ⟨_, rfl⟩; replace hf := lt_i hf r1 e1
  obtain ⟨r2, e2⟩ : ∃ z, z = (hR h this 19) := ⟨_, rfl⟩; replace hf := lt_i hf r2 e2
  replace hf := nn_i hf; obtain ⟨a2, e3, hf⟩ := hf
  replace hf := tg_i hf; obtain ⟨t4, hf⟩ := hf
  replace hf := (ix_i hf).2
  by_cases c5 : s0 = 0
  · rw [if_pos c5] at hf
    replace hf := nn_i hf; obtain ⟨a1, e6, hf⟩ := hf
    replace hf := tg_i hf; obtain ⟨t7, hf⟩ := hf
    replace hf := (ix_i hf).2
    obtain ⟨h8, e8⟩ : ∃ z, z = (sI h a1 (Int32.toNatClampNeg 3) (((hI h a2 (Int32.toNatClampNeg 3)) &&& (((1 : Int32) <<< (p2 &&& 31)) ^^^ (-1))) ||| 0)) := ⟨_, rfl⟩; replace hf := lt_i hf h8 e8
    have F9 := FrC.sI F0 ((fun b hb => F0.1 _ _ b P_this (e1.symm.trans hb)) _ e6) t7 (Or.inr (by decide)) e8
    cases hf
    exact F9
  · rw [if_neg c5] at hf
    replace hf := nn_i hf; obtain ⟨a1, e10, hf⟩ := hf
    replace hf := tg_i hf; obtain ⟨t11, hf⟩ := hf
    replace hf := (ix_i hf).2
    obtain ⟨h11, e12⟩ : ∃ z, z = (sI h a1 (Int32.toNatClampNeg 3) (((hI h a2 (Int32.toNatClampNeg 3)) &&& (((1 : Int32) <<< (p2 &&& 31)) ^^^ (-1))) ||| ((1 : Int32) <<< (p2 &&& 31)))) := ⟨_, rfl⟩; replace hf := lt_i hf h11 e12
    have F13 := FrC.sI F0 ((fun b hb => F0.1 _ _ b P_this (e1.symm.trans hb)) _ e10) t11 (Or.inr (by decide)) e12
    cases hf
    exact F13
set_option maxRecDepth 10000 in
set_option maxHeartbeats 2000000 in
theorem pX13_compares_fr {P : Nat → Prop} {g : MT} {h : CT} {this : Nat} {p1 : Int32} {p2 : Int32} {h9 : CT} (hc : Cl P h) (P_this : P this) (hf : pX13_compares g h this p1 p2 = some h9) : FrC P [(20, 1000)] g h h9 := by
  have F0 : FrC P [(20, 1000)] g h h := FrC.rf hc
  unfold pX13_compares at hf
  replace hf := tg_i hf; obtain ⟨t1, hf⟩ := hf
  replace hf := bd_i hf; obtain ⟨x1, q2, hf⟩ := hf
  obtain ⟨r3, e3⟩ : ∃ z, z = (hR h this 20) := ⟨_, rfl⟩; replace hf := lt_i hf r3 e3
  replace hf := bd_i hf; obtain ⟨x4, q4, hf⟩ := hf
  replace hf := nn_i hf; obtain ⟨a3, e5, hf⟩ := hf
  replace hf := tg_i hf; obtain ⟨t6, hf⟩ := hf
  replace hf := (ix_i hf).2
  obtain ⟨x8, e7⟩ : ∃ z, z = (hD h a3 (Int32.toNatClampNeg ((16 * x4) + p2))) := ⟨_, rfl⟩; replace hf := lt_i hf x8 e7
  obtain ⟨r9, e8⟩ : ∃ z, z = (hR h this 20) := ⟨_, rfl⟩; replace hf := lt_i hf r9 e8
  replace hf := bd_i hf; obtain ⟨x10, q9, hf⟩ := hf
  replace hf := nn_i hf; obtain ⟨a9, e10, hf⟩ := hf
  replace hf := tg_i hf; obtain ⟨t11, hf⟩ := hf
  replace hf := (ix_i hf).2
  obtain ⟨x14, e12⟩ : ∃ z, z = (hD h a9 (Int32.toNatClampNeg ((16 * x10) + p2))) := ⟨_, rfl⟩; replace hf := lt_i hf x14 e12
  by_cases c13 : x1 = 17
  · rw [if_pos c13] at hf
    by_cases c14 : 0 ≤ (Op.cmpValue (FP.dcmp x8 x14) .g)
    · rw [if_pos c14] at hf
      exact pX13_compares_b100_fr t1 P_this F0 hf
    · rw [if_neg c14] at hf
      exact pX13_compares_b100_fr t1 P_this F0 hf
  · rw [if_neg c13] at hf
    by_cases c15 : x1 = 18
    · rw [if_pos c15] at hf
      by_cases c16 : (Op.cmpValue (FP.dcmp x8 x14) .l) = 0
      · rw [if_pos c16] at hf
        exact pX13_compares_b100_fr t1 P_this F0 hf
      · rw [if_neg c16] at hf
        exact pX13_compares_b100_fr t1 P_this F0 hf
    · rw [if_neg c15] at hf
      by_cases c17 : (Op.cmpValue (FP.dcmp x8 x8) .l) = 0
      · rw [if_pos c17] at hf
        exact pX13_compares_b100_fr t1 P_this F0 hf
      · rw [if_neg c17] at hf
        exact pX13_compares_b100_fr t1 P_this F0 hf
set_option maxRecDepth 10000 in
set_option maxHeartbeats 2000000 in
theorem pX13_does_b41_fr {P : Nat → Prop} {g : MT} {this : Nat} {p1 : Int32} {p2 : Int32} {h : CT} {h0 : CT} {h9 : CT} (t0 : gT g this = 12) (P_this : P this) (F0 : FrC P [(12, 42), (20, 1000), (22, 5000)] g h0 h) (hf : pX13_does_b41 g this p1 p2 h = some h9) : FrC P [(12, 42), (20, 1000), (22, 5000)] g h0 h9 := by
  unfold pX13_does_b41 at hf
  replace hf := bd_i hf; obtain ⟨x1, q1, hf⟩ := hf
  replace hf := bd_i hf; obtain ⟨x3, q2, hf⟩ := hf
  replace hf := bd_i hf; obtain ⟨h5, q3, hf⟩ := hf
  have F4 := FrC.trans F0 (pX13_comes_fr F0.1 P_this q3) (by decide)
  cases hf
  exact F4
set_option maxRecDepth 10000 in
set_option maxHeartbeats 2000000 in
theorem pX13_does_fr {P : Nat → Prop} {g : MT} {h : CT} {this : Nat} {p1 : Int32} {p2 : Int32} {h9 : CT} (hc : Cl P h) (P_this : P this) (hf : pX13_does g h this p1 p2 = some h9) : FrC P [(12, 42), (20, 1000), (22, 5000)] g h h9 := by
  have F0 : FrC P [(12, 42), (20, 1000), (22, 5000)] g h h := FrC.rf hc
  unfold pX13_does at hf
  replace hf := tg_i hf; obtain ⟨t1, hf⟩ := hf
  replace hf := bd_i hf; obtain ⟨x1, q2, hf⟩ := hf
  obtain ⟨r3, e3⟩ : ∃ z, z = (hR h this 19) := ⟨_, rfl⟩; replace hf := lt_i hf r3 e3
  replace hf := nn_i hf; obtain ⟨a3, e4, hf⟩ := hf
  replace hf := tg_i hf; obtain ⟨t5, hf⟩ := hf
  replace hf := (ix_i hf).2
  obtain ⟨x6, e6⟩ : ∃ z, z = (pX13_has (hI h a3 (Int32.toNatClampNeg 3)) p2) := ⟨_, rfl⟩; replace hf := lt_i hf x6 e6
  by_cases c7 : (pX13_writesD x1) = 0
  · rw [if_pos c7] at hf
    by_cases c8 : (pX13_isMemory x1) = 0
    · rw [if_pos c8] at hf
      by_cases c9 : (pX13_isCompared x1) = 0
      · rw [if_pos c9] at hf
        by_cases c10 : x6 = 0
        · rw [if_pos c10] at hf
          cases hf
          exact F0
        · rw [if_neg c10] at hf
          replace hf := bd_i hf; obtain ⟨x11, q11, hf⟩ := hf
          obtain ⟨r13, e12⟩ : ∃ z, z = (hR h this 20) := ⟨_, rfl⟩; replace hf := lt_i hf r13 e12
          replace hf := bd_i hf; obtain ⟨x14, q13, hf⟩ := hf
          replace hf := nn_i hf; obtain ⟨a13, e14, hf⟩ := hf
          replace hf := tg_i hf; obtain ⟨t15, hf⟩ := hf
          replace hf := (ix_i hf).2
          replace hf := bd_i hf; obtain ⟨h18, q16, hf⟩ := hf
          have F17 := FrC.trans F0 (pX13_comes_fr F0.1 P_this q16) (by decide)
          obtain ⟨h20, e18⟩ : ∃ z, z = (sI h18 this 42 ((hI h18 this 42) + 1)) := ⟨_, rfl⟩; replace hf := lt_i hf h20 e18
          have F19 := FrC.sI F17 P_this t1 (Or.inl (by decide)) e18
          cases hf
          exact F19
      · rw [if_neg c9] at hf
        replace hf := bd_i hf; obtain ⟨h21, q20, hf⟩ := hf
        have F21 := FrC.trans F0 (pX13_compares_fr F0.1 P_this q20) (by decide)
        cases hf
        exact F21
    · rw [if_neg c8] at hf
      obtain ⟨r23, e22⟩ : ∃ z, z = (hR h this 20) := ⟨_, rfl⟩; replace hf := lt_i hf r23 e22
      replace hf := bd_i hf; obtain ⟨x24, q23, hf⟩ := hf
      obtain ⟨r26, e24⟩ : ∃ z, z = (hR h this 20) := ⟨_, rfl⟩; replace hf := lt_i hf r26 e24
      replace hf := bd_i hf; obtain ⟨x27, q25, hf⟩ := hf
      replace hf := nn_i hf; obtain ⟨a26, e26, hf⟩ := hf
      replace hf := tg_i hf; obtain ⟨t27, hf⟩ := hf
      replace hf := (ix_i hf).2
      replace hf := nn_i hf; obtain ⟨a23, e28, hf⟩ := hf
      replace hf := tg_i hf; obtain ⟨t29, hf⟩ := hf
      replace hf := (ix_i hf).2
      obtain ⟨h33, e30⟩ : ∃ z, z = (sD h a23 (Int32.toNatClampNeg (100 + x24)) (hD h a26 (Int32.toNatClampNeg ((16 * x27) + p2)))) := ⟨_, rfl⟩; replace hf := lt_i hf h33 e30
      have F31 := FrC.sD F0 ((fun b hb => F0.1 _ _ b P_this (e22.symm.trans hb)) _ e28) t29 (Or.inr (by decide)) e30
      cases hf
      exact F31
  · rw [if_neg c7] at hf
    replace hf := bd_i hf; obtain ⟨x34, q32, hf⟩ := hf
    by_cases c33 : x34 = 0
    · rw [if_pos c33] at hf
      exact pX13_does_b41_fr t1 P_this F0 hf
    · rw [if_neg c33] at hf
      by_cases c34 : x6 = 0
      · rw [if_pos c34] at hf
        cases hf
        exact F0
      · rw [if_neg c34] at hf
        exact pX13_does_b41_fr t1 P_this F0 hf
set_option maxRecDepth 10000 in
set_option maxHeartbeats 2000000 in
theorem pX13_elements_b131_fr {P : Nat → Prop} {g : MT} {this : Nat} {p1 : Int32} {p2 : Int32} {k18 : Int32 → Int32 → Int32 → CT → Option ((Int32) × CT)} {l3 : Int32} {l4 : Int32} {l5 : Int32} {h : CT} {h0 : CT} {r9 : Int32} {h9 : CT} (t0 : gT g this = 12) (P_this : P this) (hk18 : ∀ (v0 : Int32) (v1 : Int32) (v2 : Int32) (v3 : CT), FrC P [(12, 34), (12, 35), (12, 37), (12, 38), (12, 39), (12, 40), (12, 42), (20, 1000), (22, 5000)] g h0 v3 → k18 v0 v1 v2 v3 = some (r9, h9) → FrC P [(12, 34), (12, 35), (12, 37), (12, 38), (12, 39), (12, 40), (12, 42), (20, 1000), (22, 5000)] g h0 h9) (F0 : FrC P [(12, 34), (12, 35), (12, 37), (12, 38), (12, 39), (12, 40), (12, 42), (20, 1000), (22, 5000)] g h0 h) (hf : pX13_elements_b131 g this p1 p2 k18 l3 l4 l5 h = some (r9, h9)) : FrC P [(12, 34), (12, 35), (12, 37), (12, 38), (12, 39), (12, 40), (12, 42), (20, 1000), (22, 5000)] g h0 h9 := by
  unfold pX13_elements_b131 at hf
  obtain ⟨x1, e1⟩ : ∃ z, z = (l5 + 1) := ⟨_, rfl⟩; replace hf := lt_i hf x1 e1
  exact hk18 _ _ _ _ F0 hf
set_option maxRecDepth 10000 in
set_option maxHeartbeats 2000000 in
theorem pX13_elements_b18_fr {P : Nat → Prop} {g : MT} {this : Nat} {p1 : Int32} {p2 : Int32} {k18 : Int32 → Int32 → Int32 → CT → Option ((Int32) × CT)} {l3 : Int32} {l4 : Int32} {l5 : Int32} {h : CT} {h0 : CT} {r9 : Int32} {h9 : CT} (t0 : gT g this = 12) (P_this : P this) (hk18 : ∀ (v0 : Int32) (v1 : Int32) (v2 : Int32) (v3 : CT), FrC P [(12, 34), (12, 35), (12, 37), (12, 38), (12, 39), (12, 40), (12, 42), (20, 1000), (22, 5000)] g h0 v3 → k18 v0 v1 v2 v3 = some (r9, h9) → FrC P [(12, 34), (12, 35), (12, 37), (12, 38), (12, 39), (12, 40), (12, 42), (20, 1000), (22, 5000)] g h0 h9) (F0 : FrC P [(12, 34), (12, 35), (12, 37), (12, 38), (12, 39), (12, 40), (12, 42), (20, 1000), (22, 5000)] g h0 h) (hf : pX13_elements_b18 g this p1 p2 k18 l3 l4 l5 h = some (r9, h9)) : FrC P [(12, 34), (12, 35), (12, 37), (12, 38), (12, 39), (12, 40), (12, 42), (20, 1000), (22, 5000)] g h0 h9 := by
  unfold pX13_elements_b18 at hf
  obtain ⟨r1, e1⟩ : ∃ z, z = (hR h this 19) := ⟨_, rfl⟩; replace hf := lt_i hf r1 e1
  replace hf := nn_i hf; obtain ⟨a1, e2, hf⟩ := hf
  replace hf := tg_i hf; obtain ⟨t3, hf⟩ := hf
  replace hf := (ix_i hf).2
  by_cases c4 : (hI h a1 (Int32.toNatClampNeg 0)) ≤ l5
  · rw [if_pos c4] at hf
    cases hf
    exact F0
  · rw [if_neg c4] at hf
    replace hf := bd2_i hf; obtain ⟨x7, h5, q5, hf⟩ := hf
    have F6 := FrC.trans F0 (pX13_isTrapped_fr F0.1 P_this q5) (by decide)
    by_cases c7 : x7 = 0
    · rw [if_pos c7] at hf
      replace hf := bd2_i hf; obtain ⟨x11, h9, q8, hf⟩ := hf
      have F9 := FrC.trans F6 (pX13_takenAt_fr F6.1 P_this q8) (by decide)
      replace hf := bd_i hf; obtain ⟨h12, q10, hf⟩ := hf
      have F11 := FrC.trans F9 (pX13_lasts_fr F9.1 P_this q10) (by decide)
      replace hf := bd_i hf; obtain ⟨h14, q12, hf⟩ := hf
      have F13 := FrC.trans F11 (pX13_readsAll_fr F11.1 P_this q12) (by decide)
      replace hf := bd_i hf; obtain ⟨h16, q14, hf⟩ := hf
      have F15 := FrC.trans F13 (pX13_does_fr F13.1 P_this q14) (by decide)
      by_cases c16 : (pX13_writesD l3) = 0
      · rw [if_pos c16] at hf
        exact pX13_elements_b131_fr t0 P_this hk18 F15 hf
      · rw [if_neg c16] at hf
        obtain ⟨r19, e17⟩ : ∃ z, z = (hR h16 this 23) := ⟨_, rfl⟩; replace hf := lt_i hf r19 e17
        replace hf := bd_i hf; obtain ⟨x20, q18, hf⟩ := hf
        replace hf := nn_i hf; obtain ⟨a19, e19, hf⟩ := hf
        replace hf := tg_i hf; obtain ⟨t20, hf⟩ := hf
        replace hf := (ix_i hf).2
        obtain ⟨h24, e21⟩ : ∃ z, z = (sI h16 a19 (Int32.toNatClampNeg ((16 * x20) + l5)) (x11 + (pX13_latencyOf (pX13_unitOf l3)))) := ⟨_, rfl⟩; replace hf := lt_i hf h24 e21
        have F22 := FrC.sI F15 ((fun b hb => F15.1 _ _ b P_this (e17.symm.trans hb)) _ e19) t20 (Or.inr (by decide)) e21
        obtain ⟨r25, e23⟩ : ∃ z, z = (hR h24 this 23) := ⟨_, rfl⟩; replace hf := lt_i hf r25 e23
        replace hf := bd_i hf; obtain ⟨x26, q24, hf⟩ := hf
        replace hf := nn_i hf; obtain ⟨a25, e25, hf⟩ := hf
        replace hf := tg_i hf; obtain ⟨t26, hf⟩ := hf
        replace hf := (ix_i hf).2
        replace hf := bd_i hf; obtain ⟨h30, q27, hf⟩ := hf
        have F28 := FrC.trans F22 (pX13_lasts_fr F22.1 P_this q27) (by decide)
        exact pX13_elements_b131_fr t0 P_this hk18 F28 hf
    · rw [if_neg c7] at hf
      cases hf
      exact F6
set_option maxRecDepth 10000 in
set_option maxHeartbeats 2000000 in
theorem pX13_elements_l18_fr {P : Nat → Prop} {g : MT} {this : Nat} {p1 : Int32} {p2 : Int32} {h0 : CT} {r9 : Int32} {h9 : CT} (t0 : gT g this = 12) (P_this : P this) : ∀ (n : Nat) (v1 : Int32) (v2 : Int32) (v3 : Int32) (v4 : CT), FrC P [(12, 34), (12, 35), (12, 37), (12, 38), (12, 39), (12, 40), (12, 42), (20, 1000), (22, 5000)] g h0 v4 → pX13_elements_l18 g this p1 p2 n v1 v2 v3 v4 = some (r9, h9) → FrC P [(12, 34), (12, 35), (12, 37), (12, 38), (12, 39), (12, 40), (12, 42), (20, 1000), (22, 5000)] g h0 h9 := by
  intro n
  induction n with
  | zero => intro v1 v2 v3 v4 F0 hf; cases hf
  | succ n ih => intro v1 v2 v3 v4 F0 hf; exact pX13_elements_b18_fr t0 P_this ih F0 hf
set_option maxRecDepth 10000 in
set_option maxHeartbeats 2000000 in
theorem pX13_elements_fr {P : Nat → Prop} {g : MT} {h : CT} {this : Nat} {p1 : Int32} {p2 : Int32} {r9 : Int32} {h9 : CT} (hc : Cl P h) (P_this : P this) (hf : pX13_elements g h this p1 p2 = some (r9, h9)) : FrC P [(12, 34), (12, 35), (12, 37), (12, 38), (12, 39), (12, 40), (12, 42), (20, 1000), (22, 5000)] g h h9 := by
  have F0 : FrC P [(12, 34), (12, 35), (12, 37), (12, 38), (12, 39), (12, 40), (12, 42), (20, 1000), (22, 5000)] g h h := FrC.rf hc
  unfold pX13_elements at hf
  replace hf := tg_i hf; obtain ⟨t1, hf⟩ := hf
  replace hf := bd_i hf; obtain ⟨x1, q2, hf⟩ := hf
  obtain ⟨h3, e3⟩ : ∃ z, z = (sI h this 42 0) := ⟨_, rfl⟩; replace hf := lt_i hf h3 e3
  have F4 := FrC.sI F0 P_this t1 (Or.inl (by decide)) e3
  exact pX13_elements_l18_fr t1 P_this _ _ _ _ _ F4 hf
set_option maxRecDepth 10000 in
set_option maxHeartbeats 2000000 in
theorem pX13_settles_b73_fr {P : Nat → Prop} {g : MT} {this : Nat} {p1 : Int32} {p2 : Int32} {k73 : Int32 → CT → Option CT} {l4 : Int32} {h : CT} {h0 : CT} {h9 : CT} (t0 : gT g this = 12) (P_this : P this) (hk73 : ∀ (v0 : Int32) (v1 : CT), FrC P [(12, 29), (12, 30), (12, 34), (20, 1000)] g h0 v1 → k73 v0 v1 = some h9 → FrC P [(12, 29), (12, 30), (12, 34), (20, 1000)] g h0 h9) (F0 : FrC P [(12, 29), (12, 30), (12, 34), (20, 1000)] g h0 h) (hf : pX13_settles_b73 g this p1 p2 k73 l4 h = some h9) : FrC P [(12, 29), (12, 30), (12, 34), (20, 1000)] g h0 h9 := by
  unfold pX13_settles_b73 at hf
  by_cases c1 : (hI h this 42) ≤ l4
  · rw [if_pos c1] at hf
    cases hf
    exact F0
  · rw [if_neg c1] at hf
    obtain ⟨r2, e2⟩ : ∃ z, z = (hR h this 23) := ⟨_, rfl⟩; replace hf := lt_i hf r2 e2
    replace hf := bd_i hf; obtain ⟨x3, q3, hf⟩ := hf
    replace hf := nn_i hf; obtain ⟨a2, e4, hf⟩ := hf
    replace hf := tg_i hf; obtain ⟨t5, hf⟩ := hf
    replace hf := (ix_i hf).2
    obtain ⟨h7, e6⟩ : ∃ z, z = (sI h a2 (Int32.toNatClampNeg ((16 * x3) + l4)) (p2 + 3)) := ⟨_, rfl⟩; replace hf := lt_i hf h7 e6
    have F7 := FrC.sI F0 ((fun b hb => F0.1 _ _ b P_this (e2.symm.trans hb)) _ e4) t5 (Or.inr (by decide)) e6
    replace hf := bd_i hf; obtain ⟨h8, q8, hf⟩ := hf
    have F9 := FrC.trans F7 (pX13_lasts_fr F7.1 P_this q8) (by decide)
    obtain ⟨x10, e10⟩ : ∃ z, z = (l4 + 1) := ⟨_, rfl⟩; replace hf := lt_i hf x10 e10
    exact hk73 _ _ F9 hf
set_option maxRecDepth 10000 in
set_option maxHeartbeats 2000000 in
theorem pX13_settles_l73_fr {P : Nat → Prop} {g : MT} {this : Nat} {p1 : Int32} {p2 : Int32} {h0 : CT} {h9 : CT} (t0 : gT g this = 12) (P_this : P this) : ∀ (n : Nat) (v1 : Int32) (v2 : CT), FrC P [(12, 29), (12, 30), (12, 34), (20, 1000)] g h0 v2 → pX13_settles_l73 g this p1 p2 n v1 v2 = some h9 → FrC P [(12, 29), (12, 30), (12, 34), (20, 1000)] g h0 h9 := by
  intro n
  induction n with
  | zero => intro v1 v2 F0 hf; cases hf
  | succ n ih => intro v1 v2 F0 hf; exact pX13_settles_b73_fr t0 P_this ih F0 hf
set_option maxRecDepth 10000 in
set_option maxHeartbeats 2000000 in
theorem pX13_settles_b70_fr {P : Nat → Prop} {g : MT} {this : Nat} {p1 : Int32} {p2 : Int32} {h : CT} {h0 : CT} {h9 : CT} (t0 : gT g this = 12) (P_this : P this) (F0 : FrC P [(12, 29), (12, 30), (12, 34), (20, 1000)] g h0 h) (hf : pX13_settles_b70 g this p1 p2 h = some h9) : FrC P [(12, 29), (12, 30), (12, 34), (20, 1000)] g h0 h9 := by
  unfold pX13_settles_b70 at hf
  exact pX13_settles_l73_fr t0 P_this _ _ _ F0 hf
set_option maxRecDepth 10000 in
set_option maxHeartbeats 2000000 in
theorem pX13_settles_b58_fr {P : Nat → Prop} {g : MT} {this : Nat} {p1 : Int32} {p2 : Int32} {h : CT} {h0 : CT} {h9 : CT} (t0 : gT g this = 12) (P_this : P this) (F0 : FrC P [(12, 29), (12, 30), (12, 34), (20, 1000)] g h0 h) (hf : pX13_settles_b58 g this p1 p2 h = some h9) : FrC P [(12, 29), (12, 30), (12, 34), (20, 1000)] g h0 h9 := by
  unfold pX13_settles_b58 at hf
  obtain ⟨h1, e1⟩ : ∃ z, z = (sI h this 30 (pJ9_max_7cf53 (hI h this 30) p2)) := ⟨_, rfl⟩; replace hf := lt_i hf h1 e1
  have F2 := FrC.sI F0 P_this t0 (Or.inl (by decide)) e1
  exact pX13_settles_b70_fr t0 P_this F2 hf
set_option maxRecDepth 10000 in
set_option maxHeartbeats 2000000 in
theorem pX13_settles_b41_fr {P : Nat → Prop} {g : MT} {this : Nat} {p1 : Int32} {p2 : Int32} {l3 : Int32} {h : CT} {h0 : CT} {h9 : CT} (t0 : gT g this = 12) (P_this : P this) (F0 : FrC P [(12, 29), (12, 30), (12, 34), (20, 1000)] g h0 h) (hf : pX13_settles_b41 g this p1 p2 l3 h = some h9) : FrC P [(12, 29), (12, 30), (12, 34), (20, 1000)] g h0 h9 := by
  unfold pX13_settles_b41 at hf
  by_cases c1 : l3 = 21
  · rw [if_pos c1] at hf
    exact pX13_settles_b58_fr t0 P_this F0 hf
  · rw [if_neg c1] at hf
    replace hf := bd_i hf; obtain ⟨x2, q2, hf⟩ := hf
    by_cases c3 : x2 = 1
    · rw [if_pos c3] at hf
      exact pX13_settles_b58_fr t0 P_this F0 hf
    · rw [if_neg c3] at hf
      exact pX13_settles_b70_fr t0 P_this F0 hf
set_option maxRecDepth 10000 in
set_option maxHeartbeats 2000000 in
theorem pX13_settles_fr {P : Nat → Prop} {g : MT} {h : CT} {this : Nat} {p1 : Int32} {p2 : Int32} {h9 : CT} (hc : Cl P h) (P_this : P this) (hf : pX13_settles g h this p1 p2 = some h9) : FrC P [(12, 29), (12, 30), (12, 34), (20, 1000)] g h h9 := by
  have F0 : FrC P [(12, 29), (12, 30), (12, 34), (20, 1000)] g h h := FrC.rf hc
  unfold pX13_settles at hf
  replace hf := tg_i hf; obtain ⟨t1, hf⟩ := hf
  replace hf := bd_i hf; obtain ⟨x1, q2, hf⟩ := hf
  obtain ⟨r3, e3⟩ : ∃ z, z = (hR h this 25) := ⟨_, rfl⟩; replace hf := lt_i hf r3 e3
  replace hf := nn_i hf; obtain ⟨a3, e4, hf⟩ := hf
  replace hf := tg_i hf; obtain ⟨t5, hf⟩ := hf
  replace hf := (ix_i hf).2
  obtain ⟨h6, e6⟩ : ∃ z, z = (sI h a3 (Int32.toNatClampNeg (pX13_unitOf x1)) (p2 + 1)) := ⟨_, rfl⟩; replace hf := lt_i hf h6 e6
  have F7 := FrC.sI F0 ((fun b hb => F0.1 _ _ b P_this (e3.symm.trans hb)) _ e4) t5 (Or.inr (by decide)) e6
  by_cases c8 : (pX13_isCompared x1) = 0
  · rw [if_pos c8] at hf
    exact pX13_settles_b41_fr t1 P_this F7 hf
  · rw [if_neg c8] at hf
    obtain ⟨h8, e9⟩ : ∃ z, z = (sI h6 this 29 (p2 + 3)) := ⟨_, rfl⟩; replace hf := lt_i hf h8 e9
    have F10 := FrC.sI F7 P_this t1 (Or.inl (by decide)) e9
    replace hf := bd_i hf; obtain ⟨h9, q11, hf⟩ := hf
    have F12 := FrC.trans F10 (pX13_lasts_fr F10.1 P_this q11) (by decide)
    exact pX13_settles_b41_fr t1 P_this F12 hf
set_option maxRecDepth 10000 in
set_option maxHeartbeats 2000000 in
theorem pX13_folded_b120_fr {P : Nat → Prop} {g : MT} {this : Nat} {p1 : Int32} {p2 : Int32} {p3 : Int32} {k42 : Int32 → CT → Option ((UInt64) × CT)} {k59 : Int32 → Int32 → Int32 → CT → Option ((UInt64) × CT)} {l4 : Int32} {l5 : Int32} {l6 : Int32} {r80 : Option Nat} {s1 : Int32} {s2 : UInt64} {h : CT} {h0 : CT} {r9 : UInt64} {h9 : CT} (t0 : gT g this = 12) (P_this : P this) (hk42 : ∀ (v0 : Int32) (v1 : CT), FrC P [(12, 44), (22, 5000)] g h0 v1 → k42 v0 v1 = some (r9, h9) → FrC P [(12, 44), (22, 5000)] g h0 h9) (hk59 : ∀ (v0 : Int32) (v1 : Int32) (v2 : Int32) (v3 : CT), FrC P [(12, 44), (22, 5000)] g h0 v3 → k59 v0 v1 v2 v3 = some (r9, h9) → FrC P [(12, 44), (22, 5000)] g h0 h9) (P_r80 : ∀ b, r80 = some b → P b) (F0 : FrC P [(12, 44), (22, 5000)] g h0 h) (hf : pX13_folded_b120 g this p1 p2 p3 k42 k59 l4 l5 l6 r80 s1 s2 h = some (r9, h9)) : FrC P [(12, 44), (22, 5000)] g h0 h9 := by
  unfold pX13_folded_b120 at hf
  replace hf := nn_i hf; obtain ⟨a80, e1, hf⟩ := hf
  replace hf := tg_i hf; obtain ⟨t2, hf⟩ := hf
  replace hf := (ix_i hf).2
  obtain ⟨h3, e3⟩ : ∃ z, z = (sD h a80 (Int32.toNatClampNeg s1) s2) := ⟨_, rfl⟩; replace hf := lt_i hf h3 e3
  have F4 := FrC.sD F0 (P_r80 _ e1) t2 (Or.inr (by decide)) e3
  obtain ⟨x4, e5⟩ : ∃ z, z = (l6 + 1) := ⟨_, rfl⟩; replace hf := lt_i hf x4 e5
  exact hk59 _ _ _ _ F4 hf
set_option maxRecDepth 10000 in
set_option maxHeartbeats 2000000 in
theorem pX13_folded_b59_fr {P : Nat → Prop} {g : MT} {this : Nat} {p1 : Int32} {p2 : Int32} {p3 : Int32} {k42 : Int32 → CT → Option ((UInt64) × CT)} {k59 : Int32 → Int32 → Int32 → CT → Option ((UInt64) × CT)} {l4 : Int32} {l5 : Int32} {l6 : Int32} {h : CT} {h0 : CT} {r9 : UInt64} {h9 : CT} (t0 : gT g this = 12) (P_this : P this) (hk42 : ∀ (v0 : Int32) (v1 : CT), FrC P [(12, 44), (22, 5000)] g h0 v1 → k42 v0 v1 = some (r9, h9) → FrC P [(12, 44), (22, 5000)] g h0 h9) (hk59 : ∀ (v0 : Int32) (v1 : Int32) (v2 : Int32) (v3 : CT), FrC P [(12, 44), (22, 5000)] g h0 v3 → k59 v0 v1 v2 v3 = some (r9, h9) → FrC P [(12, 44), (22, 5000)] g h0 h9) (F0 : FrC P [(12, 44), (22, 5000)] g h0 h) (hf : pX13_folded_b59 g this p1 p2 p3 k42 k59 l4 l5 l6 h = some (r9, h9)) : FrC P [(12, 44), (22, 5000)] g h0 h9 := by
  unfold pX13_folded_b59 at hf
  by_cases c1 : (l4 - l5) ≤ l6
  · rw [if_pos c1] at hf
    obtain ⟨h2, e2⟩ : ∃ z, z = (sI h this 44 ((hI h this 44) + 1)) := ⟨_, rfl⟩; replace hf := lt_i hf h2 e2
    have F3 := FrC.sI F0 P_this t0 (Or.inl (by decide)) e2
    exact hk42 _ _ F3 hf
  · rw [if_neg c1] at hf
    obtain ⟨r3, e4⟩ : ∃ z, z = (hR h this 43) := ⟨_, rfl⟩; replace hf := lt_i hf r3 e4
    by_cases c5 : p3 = 0
    · rw [if_pos c5] at hf
      obtain ⟨r5, e6⟩ : ∃ z, z = (hR h this 43) := ⟨_, rfl⟩; replace hf := lt_i hf r5 e6
      replace hf := nn_i hf; obtain ⟨a5, e7, hf⟩ := hf
      replace hf := tg_i hf; obtain ⟨t8, hf⟩ := hf
      replace hf := (ix_i hf).2
      obtain ⟨r8, e9⟩ : ∃ z, z = (hR h this 43) := ⟨_, rfl⟩; replace hf := lt_i hf r8 e9
      replace hf := nn_i hf; obtain ⟨a8, e10, hf⟩ := hf
      replace hf := tg_i hf; obtain ⟨t11, hf⟩ := hf
      replace hf := (ix_i hf).2
      exact pX13_folded_b120_fr t0 P_this hk42 hk59 (fun b hb => F0.1 _ _ b P_this (e4.symm.trans hb)) F0 hf
    · rw [if_neg c5] at hf
      obtain ⟨r11, e12⟩ : ∃ z, z = (hR h this 43) := ⟨_, rfl⟩; replace hf := lt_i hf r11 e12
      replace hf := nn_i hf; obtain ⟨a11, e13, hf⟩ := hf
      replace hf := tg_i hf; obtain ⟨t14, hf⟩ := hf
      replace hf := (ix_i hf).2
      obtain ⟨r14, e15⟩ : ∃ z, z = (hR h this 43) := ⟨_, rfl⟩; replace hf := lt_i hf r14 e15
      replace hf := nn_i hf; obtain ⟨a14, e16, hf⟩ := hf
      replace hf := tg_i hf; obtain ⟨t17, hf⟩ := hf
      replace hf := (ix_i hf).2
      exact pX13_folded_b120_fr t0 P_this hk42 hk59 (fun b hb => F0.1 _ _ b P_this (e4.symm.trans hb)) F0 hf
set_option maxRecDepth 10000 in
set_option maxHeartbeats 2000000 in
theorem pX13_folded_l59_fr {P : Nat → Prop} {g : MT} {this : Nat} {p1 : Int32} {p2 : Int32} {p3 : Int32} {k42 : Int32 → CT → Option ((UInt64) × CT)} {h0 : CT} {r9 : UInt64} {h9 : CT} (t0 : gT g this = 12) (P_this : P this) (hk42 : ∀ (v0 : Int32) (v1 : CT), FrC P [(12, 44), (22, 5000)] g h0 v1 → k42 v0 v1 = some (r9, h9) → FrC P [(12, 44), (22, 5000)] g h0 h9) : ∀ (n : Nat) (v1 : Int32) (v2 : Int32) (v3 : Int32) (v4 : CT), FrC P [(12, 44), (22, 5000)] g h0 v4 → pX13_folded_l59 g this p1 p2 p3 k42 n v1 v2 v3 v4 = some (r9, h9) → FrC P [(12, 44), (22, 5000)] g h0 h9 := by
  intro n
  induction n with
  | zero => intro v1 v2 v3 v4 F0 hf; cases hf
  | succ n ih => intro v1 v2 v3 v4 F0 hf; exact pX13_folded_b59_fr t0 P_this hk42 ih F0 hf
set_option maxRecDepth 10000 in
set_option maxHeartbeats 2000000 in
theorem pX13_folded_b42_fr {P : Nat → Prop} {g : MT} {this : Nat} {p1 : Int32} {p2 : Int32} {p3 : Int32} {k42 : Int32 → CT → Option ((UInt64) × CT)} {l4 : Int32} {h : CT} {h0 : CT} {r9 : UInt64} {h9 : CT} (t0 : gT g this = 12) (P_this : P this) (hk42 : ∀ (v0 : Int32) (v1 : CT), FrC P [(12, 44), (22, 5000)] g h0 v1 → k42 v0 v1 = some (r9, h9) → FrC P [(12, 44), (22, 5000)] g h0 h9) (F0 : FrC P [(12, 44), (22, 5000)] g h0 h) (hf : pX13_folded_b42 g this p1 p2 p3 k42 l4 h = some (r9, h9)) : FrC P [(12, 44), (22, 5000)] g h0 h9 := by
  unfold pX13_folded_b42 at hf
  by_cases c1 : l4 ≤ 1
  · rw [if_pos c1] at hf
    by_cases c2 : p2 ≤ 0
    · rw [if_pos c2] at hf
      by_cases c3 : p3 = 0
      · rw [if_pos c3] at hf
        cases hf
        exact F0
      · rw [if_neg c3] at hf
        cases hf
        exact F0
    · rw [if_neg c2] at hf
      obtain ⟨r4, e4⟩ : ∃ z, z = (hR h this 43) := ⟨_, rfl⟩; replace hf := lt_i hf r4 e4
      replace hf := nn_i hf; obtain ⟨a4, e5, hf⟩ := hf
      replace hf := tg_i hf; obtain ⟨t6, hf⟩ := hf
      replace hf := (ix_i hf).2
      cases hf
      exact F0
  · rw [if_neg c1] at hf
    obtain ⟨x7, e7⟩ : ∃ z, z = ((l4 + 1) / 2) := ⟨_, rfl⟩; replace hf := lt_i hf x7 e7
    exact pX13_folded_l59_fr t0 P_this hk42 _ _ _ _ _ F0 hf
set_option maxRecDepth 10000 in
set_option maxHeartbeats 2000000 in
theorem pX13_folded_l42_fr {P : Nat → Prop} {g : MT} {this : Nat} {p1 : Int32} {p2 : Int32} {p3 : Int32} {h0 : CT} {r9 : UInt64} {h9 : CT} (t0 : gT g this = 12) (P_this : P this) : ∀ (n : Nat) (v1 : Int32) (v2 : CT), FrC P [(12, 44), (22, 5000)] g h0 v2 → pX13_folded_l42 g this p1 p2 p3 n v1 v2 = some (r9, h9) → FrC P [(12, 44), (22, 5000)] g h0 h9 := by
  intro n
  induction n with
  | zero => intro v1 v2 F0 hf; cases hf
  | succ n ih => intro v1 v2 F0 hf; exact pX13_folded_b42_fr t0 P_this ih F0 hf
set_option maxRecDepth 10000 in
set_option maxHeartbeats 2000000 in
theorem pX13_folded_b3_fr {P : Nat → Prop} {g : MT} {this : Nat} {p1 : Int32} {p2 : Int32} {p3 : Int32} {k3 : Int32 → CT → Option ((UInt64) × CT)} {l4 : Int32} {h : CT} {h0 : CT} {r9 : UInt64} {h9 : CT} (t0 : gT g this = 12) (P_this : P this) (hk3 : ∀ (v0 : Int32) (v1 : CT), FrC P [(12, 44), (22, 5000)] g h0 v1 → k3 v0 v1 = some (r9, h9) → FrC P [(12, 44), (22, 5000)] g h0 h9) (F0 : FrC P [(12, 44), (22, 5000)] g h0 h) (hf : pX13_folded_b3 g this p1 p2 p3 k3 l4 h = some (r9, h9)) : FrC P [(12, 44), (22, 5000)] g h0 h9 := by
  unfold pX13_folded_b3 at hf
  by_cases c1 : p2 ≤ l4
  · rw [if_pos c1] at hf
    obtain ⟨h2, e2⟩ : ∃ z, z = (sI h this 44 0) := ⟨_, rfl⟩; replace hf := lt_i hf h2 e2
    have F3 := FrC.sI F0 P_this t0 (Or.inl (by decide)) e2
    exact pX13_folded_l42_fr t0 P_this _ _ _ F3 hf
  · rw [if_neg c1] at hf
    obtain ⟨r3, e4⟩ : ∃ z, z = (hR h this 43) := ⟨_, rfl⟩; replace hf := lt_i hf r3 e4
    obtain ⟨r4, e5⟩ : ∃ z, z = (hR h this 20) := ⟨_, rfl⟩; replace hf := lt_i hf r4 e5
    replace hf := nn_i hf; obtain ⟨a4, e6, hf⟩ := hf
    replace hf := tg_i hf; obtain ⟨t7, hf⟩ := hf
    replace hf := (ix_i hf).2
    replace hf := nn_i hf; obtain ⟨a3, e8, hf⟩ := hf
    replace hf := tg_i hf; obtain ⟨t9, hf⟩ := hf
    replace hf := (ix_i hf).2
    obtain ⟨h9, e10⟩ : ∃ z, z = (sD h a3 (Int32.toNatClampNeg l4) (hD h a4 (Int32.toNatClampNeg ((16 * p1) + l4)))) := ⟨_, rfl⟩; replace hf := lt_i hf h9 e10
    have F11 := FrC.sD F0 ((fun b hb => F0.1 _ _ b P_this (e4.symm.trans hb)) _ e8) t9 (Or.inr (by decide)) e10
    obtain ⟨x10, e12⟩ : ∃ z, z = (l4 + 1) := ⟨_, rfl⟩; replace hf := lt_i hf x10 e12
    exact hk3 _ _ F11 hf
set_option maxRecDepth 10000 in
set_option maxHeartbeats 2000000 in
theorem pX13_folded_l3_fr {P : Nat → Prop} {g : MT} {this : Nat} {p1 : Int32} {p2 : Int32} {p3 : Int32} {h0 : CT} {r9 : UInt64} {h9 : CT} (t0 : gT g this = 12) (P_this : P this) : ∀ (n : Nat) (v1 : Int32) (v2 : CT), FrC P [(12, 44), (22, 5000)] g h0 v2 → pX13_folded_l3 g this p1 p2 p3 n v1 v2 = some (r9, h9) → FrC P [(12, 44), (22, 5000)] g h0 h9 := by
  intro n
  induction n with
  | zero => intro v1 v2 F0 hf; cases hf
  | succ n ih => intro v1 v2 F0 hf; exact pX13_folded_b3_fr t0 P_this ih F0 hf
set_option maxRecDepth 10000 in
set_option maxHeartbeats 2000000 in
theorem pX13_folded_fr {P : Nat → Prop} {g : MT} {h : CT} {this : Nat} {p1 : Int32} {p2 : Int32} {p3 : Int32} {r9 : UInt64} {h9 : CT} (hc : Cl P h) (P_this : P this) (hf : pX13_folded g h this p1 p2 p3 = some (r9, h9)) : FrC P [(12, 44), (22, 5000)] g h h9 := by
  have F0 : FrC P [(12, 44), (22, 5000)] g h h := FrC.rf hc
  unfold pX13_folded at hf
  replace hf := tg_i hf; obtain ⟨t1, hf⟩ := hf
  exact pX13_folded_l3_fr t1 P_this _ _ _ F0 hf
set_option maxRecDepth 10000 in
set_option maxHeartbeats 2000000 in
theorem pX13_ends_fr {P : Nat → Prop} {g : MT} {h : CT} {this : Nat} {p1 : Int32} {p2 : Int32} {h9 : CT} (hc : Cl P h) (P_this : P this) (hf : pX13_ends g h this p1 p2 = some h9) : FrC P [(12, 31), (12, 34), (20, 1000)] g h h9 := by
  have F0 : FrC P [(12, 31), (12, 34), (20, 1000)] g h h := FrC.rf hc
  unfold pX13_ends at hf
  replace hf := tg_i hf; obtain ⟨t1, hf⟩ := hf
  obtain ⟨h1, e2⟩ : ∃ z, z = (sI h this 31 p2) := ⟨_, rfl⟩; replace hf := lt_i hf h1 e2
  have F3 := FrC.sI F0 P_this t1 (Or.inl (by decide)) e2
  obtain ⟨r2, e4⟩ : ∃ z, z = (hR h1 this 28) := ⟨_, rfl⟩; replace hf := lt_i hf r2 e4
  replace hf := nn_i hf; obtain ⟨a2, e5, hf⟩ := hf
  replace hf := tg_i hf; obtain ⟨t6, hf⟩ := hf
  replace hf := (ix_i hf).2
  obtain ⟨h5, e7⟩ : ∃ z, z = (sI h1 a2 (Int32.toNatClampNeg p1) p2) := ⟨_, rfl⟩; replace hf := lt_i hf h5 e7
  have F8 := FrC.sI F3 ((fun b hb => F3.1 _ _ b P_this (e4.symm.trans hb)) _ e5) t6 (Or.inr (by decide)) e7
  replace hf := bd_i hf; obtain ⟨h6, q9, hf⟩ := hf
  have F10 := FrC.trans F8 (pX13_lasts_fr F8.1 P_this q9) (by decide)
  cases hf
  exact F10
set_option maxRecDepth 10000 in
set_option maxHeartbeats 2000000 in
theorem pX13_counts_fr {P : Nat → Prop} {g : MT} {h : CT} {this : Nat} {p1 : Int32} {p2 : Int32} {h9 : CT} (hc : Cl P h) (P_this : P this) (hf : pX13_counts g h this p1 p2 = some h9) : FrC P [(12, 30), (12, 31), (12, 34), (20, 1000), (22, 5000)] g h h9 := by
  have F0 : FrC P [(12, 30), (12, 31), (12, 34), (20, 1000), (22, 5000)] g h h := FrC.rf hc
  unfold pX13_counts at hf
  replace hf := tg_i hf; obtain ⟨t1, hf⟩ := hf
  obtain ⟨r1, e2⟩ : ∃ z, z = (hR h this 20) := ⟨_, rfl⟩; replace hf := lt_i hf r1 e2
  replace hf := bd_i hf; obtain ⟨x2, q3, hf⟩ := hf
  replace hf := bd_i hf; obtain ⟨x4, q4, hf⟩ := hf
  replace hf := nn_i hf; obtain ⟨a1, e5, hf⟩ := hf
  replace hf := tg_i hf; obtain ⟨t6, hf⟩ := hf
  replace hf := (ix_i hf).2
  obtain ⟨h8, e7⟩ : ∃ z, z = (sD h a1 (Int32.toNatClampNeg (96 + x2)) (fi2d x4)) := ⟨_, rfl⟩; replace hf := lt_i hf h8 e7
  have F8 := FrC.sD F0 ((fun b hb => F0.1 _ _ b P_this (e2.symm.trans hb)) _ e5) t6 (Or.inr (by decide)) e7
  obtain ⟨h9, e9⟩ : ∃ z, z = (sI h8 this 30 (pJ9_max_7cf53 (hI h8 this 30) p2)) := ⟨_, rfl⟩; replace hf := lt_i hf h9 e9
  have F10 := FrC.sI F8 P_this t1 (Or.inl (by decide)) e9
  replace hf := bd_i hf; obtain ⟨h10, q11, hf⟩ := hf
  have F12 := FrC.trans F10 (pX13_ends_fr F10.1 P_this q11) (by decide)
  cases hf
  exact F12
set_option maxRecDepth 10000 in
set_option maxHeartbeats 2000000 in
theorem pX13_flips_fr {P : Nat → Prop} {g : MT} {h : CT} {this : Nat} {p1 : Int32} {h9 : CT} (hc : Cl P h) (P_this : P this) (hf : pX13_flips g h this p1 = some h9) : FrC P [(12, 29), (12, 30), (12, 34), (20, 1000)] g h h9 := by
  have F0 : FrC P [(12, 29), (12, 30), (12, 34), (20, 1000)] g h h := FrC.rf hc
  unfold pX13_flips at hf
  replace hf := tg_i hf; obtain ⟨t1, hf⟩ := hf
  obtain ⟨r1, e2⟩ : ∃ z, z = (hR h this 19) := ⟨_, rfl⟩; replace hf := lt_i hf r1 e2
  replace hf := nn_i hf; obtain ⟨a1, e3, hf⟩ := hf
  replace hf := tg_i hf; obtain ⟨t4, hf⟩ := hf
  replace hf := (ix_i hf).2
  obtain ⟨r4, e5⟩ : ∃ z, z = (hR h this 19) := ⟨_, rfl⟩; replace hf := lt_i hf r4 e5
  replace hf := nn_i hf; obtain ⟨a4, e6, hf⟩ := hf
  replace hf := tg_i hf; obtain ⟨t7, hf⟩ := hf
  replace hf := (ix_i hf).2
  replace hf := (ix_i hf).2
  obtain ⟨h8, e8⟩ : ∃ z, z = (sI h a1 (Int32.toNatClampNeg 3) ((hI h a1 (Int32.toNatClampNeg 3)) ^^^ (((1 : Int32) <<< ((hI h a4 (Int32.toNatClampNeg 0)) &&& 31)) - 1))) := ⟨_, rfl⟩; replace hf := lt_i hf h8 e8
  have F9 := FrC.sI F0 ((fun b hb => F0.1 _ _ b P_this (e2.symm.trans hb)) _ e3) t4 (Or.inr (by decide)) e8
  obtain ⟨h9, e10⟩ : ∃ z, z = (sI h8 this 30 (pJ9_max_7cf53 (hI h8 this 30) p1)) := ⟨_, rfl⟩; replace hf := lt_i hf h9 e10
  have F11 := FrC.sI F9 P_this t1 (Or.inl (by decide)) e10
  obtain ⟨h10, e12⟩ : ∃ z, z = (sI h9 this 29 (p1 + 1)) := ⟨_, rfl⟩; replace hf := lt_i hf h10 e12
  have F13 := FrC.sI F11 P_this t1 (Or.inl (by decide)) e12
  replace hf := bd_i hf; obtain ⟨h11, q14, hf⟩ := hf
  have F15 := FrC.trans F13 (pX13_lasts_fr F13.1 P_this q14) (by decide)
  cases hf
  exact F15
set_option maxRecDepth 10000 in
set_option maxHeartbeats 2000000 in
theorem pX13_begins_fr {P : Nat → Prop} {g : MT} {h : CT} {this : Nat} {p1 : Int32} {h9 : CT} (hc : Cl P h) (P_this : P this) (hf : pX13_begins g h this p1 = some h9) : FrC P [(12, 32), (12, 34)] g h h9 := by
  have F0 : FrC P [(12, 32), (12, 34)] g h h := FrC.rf hc
  unfold pX13_begins at hf
  replace hf := tg_i hf; obtain ⟨t1, hf⟩ := hf
  obtain ⟨h1, e2⟩ : ∃ z, z = (sI h this 32 p1) := ⟨_, rfl⟩; replace hf := lt_i hf h1 e2
  have F3 := FrC.sI F0 P_this t1 (Or.inl (by decide)) e2
  replace hf := bd_i hf; obtain ⟨h2, q4, hf⟩ := hf
  have F5 := FrC.trans F3 (pX13_lasts_fr F3.1 P_this q4) (by decide)
  cases hf
  exact F5
set_option maxRecDepth 10000 in
set_option maxHeartbeats 2000000 in
theorem pX13_answer_fr {P : Nat → Prop} {g : MT} {h : CT} {this : Nat} {p1 : Int32} {r9 : Int32} {h9 : CT} (hc : Cl P h) (P_this : P this) (hf : pX13_answer g h this p1 = some (r9, h9)) : FrC P [(12, 0)] g h h9 := by
  have F0 : FrC P [(12, 0)] g h h := FrC.rf hc
  unfold pX13_answer at hf
  replace hf := tg_i hf; obtain ⟨t1, hf⟩ := hf
  by_cases c2 : 0 ≤ p1
  · rw [if_pos c2] at hf
    cases hf
    exact F0
  · rw [if_neg c2] at hf
    replace hf := bd2_i hf; obtain ⟨x4, h2, q3, hf⟩ := hf
    have F4 := FrC.trans F0 (pX13_refuse_fr F0.1 P_this q3) (by decide)
    cases hf
    exact F4
set_option maxRecDepth 10000 in
set_option maxHeartbeats 2000000 in
theorem pX13_ran_fr {P : Nat → Prop} {g : MT} {h : CT} {this : Nat} {p1 : Int32} {r9 : Int32} {h9 : CT} (hc : Cl P h) (P_this : P this) (hf : pX13_ran g h this p1 = some (r9, h9)) : FrC P [(12, 0), (12, 1)] g h h9 := by
  have F0 : FrC P [(12, 0), (12, 1)] g h h := FrC.rf hc
  unfold pX13_ran at hf
  replace hf := tg_i hf; obtain ⟨t1, hf⟩ := hf
  obtain ⟨h1, e2⟩ : ∃ z, z = (sI h this 1 0) := ⟨_, rfl⟩; replace hf := lt_i hf h1 e2
  have F3 := FrC.sI F0 P_this t1 (Or.inl (by decide)) e2
  obtain ⟨h2, e4⟩ : ∃ z, z = (sI h1 this 0 0) := ⟨_, rfl⟩; replace hf := lt_i hf h2 e4
  have F5 := FrC.sI F3 P_this t1 (Or.inl (by decide)) e4
  by_cases c6 : (pX13_isIn (Int32.toInt64 p1) 0 5) = 0
  · rw [if_pos c6] at hf
    replace hf := bd2_i hf; obtain ⟨x16, h14, q7, hf⟩ := hf
    have F8 := FrC.trans F5 (pX13_refuse_fr F5.1 P_this q7) (by decide)
    cases hf
    exact F8
  · rw [if_neg c6] at hf
    by_cases c9 : (hI h2 this 41) = 0
    · rw [if_pos c9] at hf
      replace hf := bd2_i hf; obtain ⟨x7, h5, q10, hf⟩ := hf
      have F11 := FrC.trans F5 (pX13_refuse_fr F5.1 P_this q10) (by decide)
      cases hf
      exact F11
    · rw [if_neg c9] at hf
      obtain ⟨r8, e12⟩ : ∃ z, z = (hR h2 this 45) := ⟨_, rfl⟩; replace hf := lt_i hf r8 e12
      replace hf := nn_i hf; obtain ⟨a8, e13, hf⟩ := hf
      replace hf := tg_i hf; obtain ⟨t14, hf⟩ := hf
      replace hf := (ix_i hf).2
      replace hf := bd2_i hf; obtain ⟨x13, h11, q15, hf⟩ := hf
      have F16 := FrC.trans F5 (pX13_answer_fr F5.1 P_this q15) (by decide)
      cases hf
      exact F16
set_option maxRecDepth 10000 in
set_option maxHeartbeats 2000000 in
theorem pX13_time_b56_fr {P : Nat → Prop} {g : MT} {this : Nat} {p1 : Int32} {p2 : Int32} {h : CT} {h0 : CT} {r9 : Int32} {h9 : CT} (t0 : gT g this = 12) (P_this : P this) (F0 : FrC P [(12, 0), (12, 1)] g h0 h) (hf : pX13_time_b56 g this p1 p2 h = some (r9, h9)) : FrC P [(12, 0), (12, 1)] g h0 h9 := by
  unfold pX13_time_b56 at hf
  replace hf := bd2_i hf; obtain ⟨x3, h1, q1, hf⟩ := hf
  have F2 := FrC.trans F0 (pX13_refuse_fr F0.1 P_this q1) (by decide)
  cases hf
  exact F2
set_option maxRecDepth 10000 in
set_option maxHeartbeats 2000000 in
theorem pX13_time_fr {P : Nat → Prop} {g : MT} {h : CT} {this : Nat} {p1 : Int32} {p2 : Int32} {r9 : Int32} {h9 : CT} (hc : Cl P h) (P_this : P this) (hf : pX13_time g h this p1 p2 = some (r9, h9)) : FrC P [(12, 0), (12, 1)] g h h9 := by
  have F0 : FrC P [(12, 0), (12, 1)] g h h := FrC.rf hc
  unfold pX13_time at hf
  replace hf := tg_i hf; obtain ⟨t1, hf⟩ := hf
  obtain ⟨h1, e2⟩ : ∃ z, z = (sI h this 1 0) := ⟨_, rfl⟩; replace hf := lt_i hf h1 e2
  have F3 := FrC.sI F0 P_this t1 (Or.inl (by decide)) e2
  obtain ⟨h2, e4⟩ : ∃ z, z = (sI h1 this 0 0) := ⟨_, rfl⟩; replace hf := lt_i hf h2 e4
  have F5 := FrC.sI F3 P_this t1 (Or.inl (by decide)) e4
  replace hf := bd_i hf; obtain ⟨x3, q6, hf⟩ := hf
  by_cases c7 : x3 = 0
  · rw [if_pos c7] at hf
    replace hf := bd2_i hf; obtain ⟨x27, h25, q8, hf⟩ := hf
    have F9 := FrC.trans F5 (pX13_refuse_fr F5.1 P_this q8) (by decide)
    cases hf
    exact F9
  · rw [if_neg c7] at hf
    by_cases c10 : (pX13_isIn (Int32.toInt64 p2) 0 1) = 0
    · rw [if_pos c10] at hf
      replace hf := bd2_i hf; obtain ⟨x24, h22, q11, hf⟩ := hf
      have F12 := FrC.trans F5 (pX13_refuse_fr F5.1 P_this q11) (by decide)
      cases hf
      exact F12
    · rw [if_neg c10] at hf
      by_cases c13 : (hI h2 this 22) = 0
      · rw [if_pos c13] at hf
        exact pX13_time_b56_fr t1 P_this F5 hf
      · rw [if_neg c13] at hf
        obtain ⟨r8, e14⟩ : ∃ z, z = (hR h2 this 46) := ⟨_, rfl⟩; replace hf := lt_i hf r8 e14
        replace hf := nn_i hf; obtain ⟨a8, e15, hf⟩ := hf
        replace hf := tg_i hf; obtain ⟨t16, hf⟩ := hf
        replace hf := (ix_i hf).2
        by_cases c17 : 0 ≤ (hI h2 a8 (Int32.toNatClampNeg p1))
        · rw [if_pos c17] at hf
          by_cases c18 : p2 = 0
          · rw [if_pos c18] at hf
            obtain ⟨r19, e19⟩ : ∃ z, z = (hR h2 this 46) := ⟨_, rfl⟩; replace hf := lt_i hf r19 e19
            replace hf := nn_i hf; obtain ⟨a19, e20, hf⟩ := hf
            replace hf := tg_i hf; obtain ⟨t21, hf⟩ := hf
            replace hf := (ix_i hf).2
            cases hf
            exact F5
          · rw [if_neg c18] at hf
            obtain ⟨r13, e22⟩ : ∃ z, z = (hR h2 this 47) := ⟨_, rfl⟩; replace hf := lt_i hf r13 e22
            replace hf := nn_i hf; obtain ⟨a13, e23, hf⟩ := hf
            replace hf := tg_i hf; obtain ⟨t24, hf⟩ := hf
            replace hf := (ix_i hf).2
            replace hf := bd2_i hf; obtain ⟨x18, h16, q25, hf⟩ := hf
            have F26 := FrC.trans F5 (pX13_answer_fr F5.1 P_this q25) (by decide)
            cases hf
            exact F26
        · rw [if_neg c17] at hf
          exact pX13_time_b56_fr t1 P_this F5 hf
set_option maxRecDepth 10000 in
set_option maxHeartbeats 2000000 in
theorem pX13_summed_b83_fr {P : Nat → Prop} {g : MT} {this : Nat} {p1 : Int32} {p2 : Int32} {k52 : Int32 → UInt64 → Int32 → CT → Option ((UInt64) × CT)} {l3 : Int32} {l6 : Int32} {s0 : UInt64} {r81 : Option Nat} {s2 : Int32} {s3 : Int32} {h : CT} {h0 : CT} {r9 : UInt64} {h9 : CT} (t0 : gT g this = 12) (P_this : P this) (hk52 : ∀ (v0 : Int32) (v1 : UInt64) (v2 : Int32) (v3 : CT), FrC P [(12, 44), (22, 5000)] g h0 v3 → k52 v0 v1 v2 v3 = some (r9, h9) → FrC P [(12, 44), (22, 5000)] g h0 h9) (P_r81 : ∀ b, r81 = some b → P b) (F0 : FrC P [(12, 44), (22, 5000)] g h0 h) (hf : pX13_summed_b83 g this p1 p2 k52 l3 l6 s0 r81 s2 s3 h = some (r9, h9)) : FrC P [(12, 44), (22, 5000)] g h0 h9 := by
  unfold pX13_summed_b83 at hf
  replace hf := nn_i hf; obtain ⟨a81, e1, hf⟩ := hf
  replace hf := tg_i hf; obtain ⟨t2, hf⟩ := hf
  replace hf := (ix_i hf).2
  obtain ⟨x3, e3⟩ : ∃ z, z = (fadd s0 (hD h a81 (Int32.toNatClampNeg (s2 + s3)))) := ⟨_, rfl⟩; replace hf := lt_i hf x3 e3
  obtain ⟨x4, e4⟩ : ∃ z, z = (l6 + 1) := ⟨_, rfl⟩; replace hf := lt_i hf x4 e4
  exact hk52 _ _ _ _ F0 hf
set_option maxRecDepth 10000 in
set_option maxHeartbeats 2000000 in
theorem pX13_summed_b52_fr {P : Nat → Prop} {g : MT} {this : Nat} {p1 : Int32} {p2 : Int32} {k52 : Int32 → UInt64 → Int32 → CT → Option ((UInt64) × CT)} {l3 : Int32} {l4 : UInt64} {l6 : Int32} {h : CT} {h0 : CT} {r9 : UInt64} {h9 : CT} (t0 : gT g this = 12) (P_this : P this) (hk52 : ∀ (v0 : Int32) (v1 : UInt64) (v2 : Int32) (v3 : CT), FrC P [(12, 44), (22, 5000)] g h0 v3 → k52 v0 v1 v2 v3 = some (r9, h9) → FrC P [(12, 44), (22, 5000)] g h0 h9) (F0 : FrC P [(12, 44), (22, 5000)] g h0 h) (hf : pX13_summed_b52 g this p1 p2 k52 l3 l4 l6 h = some (r9, h9)) : FrC P [(12, 44), (22, 5000)] g h0 h9 := by
  unfold pX13_summed_b52 at hf
  by_cases c1 : l3 ≤ l6
  · rw [if_pos c1] at hf
    cases hf
    exact F0
  · rw [if_neg c1] at hf
    obtain ⟨r2, e2⟩ : ∃ z, z = (hR h this 20) := ⟨_, rfl⟩; replace hf := lt_i hf r2 e2
    by_cases c3 : p2 = 0
    · rw [if_pos c3] at hf
      exact pX13_summed_b83_fr t0 P_this hk52 (fun b hb => F0.1 _ _ b P_this (e2.symm.trans hb)) F0 hf
    · rw [if_neg c3] at hf
      exact pX13_summed_b83_fr t0 P_this hk52 (fun b hb => F0.1 _ _ b P_this (e2.symm.trans hb)) F0 hf
set_option maxRecDepth 10000 in
set_option maxHeartbeats 2000000 in
theorem pX13_summed_l52_fr {P : Nat → Prop} {g : MT} {this : Nat} {p1 : Int32} {p2 : Int32} {h0 : CT} {r9 : UInt64} {h9 : CT} (t0 : gT g this = 12) (P_this : P this) : ∀ (n : Nat) (v1 : Int32) (v2 : UInt64) (v3 : Int32) (v4 : CT), FrC P [(12, 44), (22, 5000)] g h0 v4 → pX13_summed_l52 g this p1 p2 n v1 v2 v3 v4 = some (r9, h9) → FrC P [(12, 44), (22, 5000)] g h0 h9 := by
  intro n
  induction n with
  | zero => intro v1 v2 v3 v4 F0 hf; cases hf
  | succ n ih => intro v1 v2 v3 v4 F0 hf; exact pX13_summed_b52_fr t0 P_this ih F0 hf
set_option maxRecDepth 10000 in
set_option maxHeartbeats 2000000 in
theorem pX13_summed_b45_fr {P : Nat → Prop} {g : MT} {this : Nat} {p1 : Int32} {p2 : Int32} {l3 : Int32} {r80 : Option Nat} {s1 : Int32} {s2 : Int32} {h : CT} {h0 : CT} {r9 : UInt64} {h9 : CT} (t0 : gT g this = 12) (P_this : P this) (P_r80 : ∀ b, r80 = some b → P b) (F0 : FrC P [(12, 44), (22, 5000)] g h0 h) (hf : pX13_summed_b45 g this p1 p2 l3 r80 s1 s2 h = some (r9, h9)) : FrC P [(12, 44), (22, 5000)] g h0 h9 := by
  unfold pX13_summed_b45 at hf
  replace hf := nn_i hf; obtain ⟨a80, e1, hf⟩ := hf
  replace hf := tg_i hf; obtain ⟨t2, hf⟩ := hf
  replace hf := (ix_i hf).2
  obtain ⟨x3, e3⟩ : ∃ z, z = (hD h a80 (Int32.toNatClampNeg (s1 + s2))) := ⟨_, rfl⟩; replace hf := lt_i hf x3 e3
  exact pX13_summed_l52_fr t0 P_this _ _ _ _ _ F0 hf
set_option maxRecDepth 10000 in
set_option maxHeartbeats 2000000 in
theorem pX13_summed_fr {P : Nat → Prop} {g : MT} {h : CT} {this : Nat} {p1 : Int32} {p2 : Int32} {r9 : UInt64} {h9 : CT} (hc : Cl P h) (P_this : P this) (hf : pX13_summed g h this p1 p2 = some (r9, h9)) : FrC P [(12, 44), (22, 5000)] g h h9 := by
  have F0 : FrC P [(12, 44), (22, 5000)] g h h := FrC.rf hc
  unfold pX13_summed at hf
  replace hf := tg_i hf; obtain ⟨t1, hf⟩ := hf
  obtain ⟨r1, e2⟩ : ∃ z, z = (hR h this 19) := ⟨_, rfl⟩; replace hf := lt_i hf r1 e2
  replace hf := nn_i hf; obtain ⟨a1, e3, hf⟩ := hf
  replace hf := tg_i hf; obtain ⟨t4, hf⟩ := hf
  replace hf := (ix_i hf).2
  obtain ⟨x4, e5⟩ : ∃ z, z = (hI h a1 (Int32.toNatClampNeg 0)) := ⟨_, rfl⟩; replace hf := lt_i hf x4 e5
  by_cases c6 : x4 = 0
  · rw [if_pos c6] at hf
    cases hf
    exact F0
  · rw [if_neg c6] at hf
    by_cases c7 : p2 = 2
    · rw [if_pos c7] at hf
      replace hf := bd2_i hf; obtain ⟨x11, h9, q8, hf⟩ := hf
      have F9 := FrC.trans F0 (pX13_folded_fr F0.1 P_this q8) (by decide)
      cases hf
      exact F9
    · rw [if_neg c7] at hf
      obtain ⟨r7, e10⟩ : ∃ z, z = (hR h this 20) := ⟨_, rfl⟩; replace hf := lt_i hf r7 e10
      by_cases c11 : p2 = 0
      · rw [if_pos c11] at hf
        exact pX13_summed_b45_fr t1 P_this (fun b hb => F0.1 _ _ b P_this (e10.symm.trans hb)) F0 hf
      · rw [if_neg c11] at hf
        exact pX13_summed_b45_fr t1 P_this (fun b hb => F0.1 _ _ b P_this (e10.symm.trans hb)) F0 hf
set_option maxRecDepth 10000 in
set_option maxHeartbeats 2000000 in
theorem pX13_sum_fr {P : Nat → Prop} {g : MT} {h : CT} {this : Nat} {p1 : Int32} {p2 : Int32} {r9 : Int32} {h9 : CT} (hc : Cl P h) (P_this : P this) (hf : pX13_sum g h this p1 p2 = some (r9, h9)) : FrC P [(12, 0), (12, 1), (12, 3), (12, 44), (12, 2002), (22, 5000)] g h h9 := by
  have F0 : FrC P [(12, 0), (12, 1), (12, 3), (12, 44), (12, 2002), (22, 5000)] g h h := FrC.rf hc
  unfold pX13_sum at hf
  replace hf := tg_i hf; obtain ⟨t1, hf⟩ := hf
  obtain ⟨h1, e2⟩ : ∃ z, z = (sI h this 1 0) := ⟨_, rfl⟩; replace hf := lt_i hf h1 e2
  have F3 := FrC.sI F0 P_this t1 (Or.inl (by decide)) e2
  obtain ⟨h2, e4⟩ : ∃ z, z = (sI h1 this 0 0) := ⟨_, rfl⟩; replace hf := lt_i hf h2 e4
  have F5 := FrC.sI F3 P_this t1 (Or.inl (by decide)) e4
  by_cases c6 : (pX13_isRow p1) = 0
  · rw [if_pos c6] at hf
    replace hf := bd2_i hf; obtain ⟨x22, h20, q7, hf⟩ := hf
    have F8 := FrC.trans F5 (pX13_refuse_fr F5.1 P_this q7) (by decide)
    cases hf
    exact F8
  · rw [if_neg c6] at hf
    replace hf := bd_i hf; obtain ⟨x4, q9, hf⟩ := hf
    by_cases c10 : x4 = 0
    · rw [if_pos c10] at hf
      by_cases c11 : (pX13_isIn (Int32.toInt64 p2) 0 2) = 0
      · rw [if_pos c11] at hf
        replace hf := bd2_i hf; obtain ⟨x10, h8, q12, hf⟩ := hf
        have F13 := FrC.trans F5 (pX13_refuse_fr F5.1 P_this q12) (by decide)
        cases hf
        exact F13
      · rw [if_neg c11] at hf
        replace hf := bd2_i hf; obtain ⟨x13, h11, q14, hf⟩ := hf
        have F15 := FrC.trans F5 (pX13_summed_fr F5.1 P_this q14) (by decide)
        replace hf := bd2_i hf; obtain ⟨x16, h14, q16, hf⟩ := hf
        have F17 := FrC.trans F15 (pX13_tells_fr F15.1 P_this q16) (by decide)
        cases hf
        exact F17
    · rw [if_neg c10] at hf
      replace hf := bd2_i hf; obtain ⟨x19, h17, q18, hf⟩ := hf
      have F19 := FrC.trans F5 (pX13_refuse_fr F5.1 P_this q18) (by decide)
      cases hf
      exact F19
set_option maxRecDepth 10000 in
set_option maxHeartbeats 2000000 in
theorem pX13_sums_b95_fr {P : Nat → Prop} {g : MT} {this : Nat} {p1 : Int32} {l8 : Int32} {h : CT} {h0 : CT} {r9 : Int32} {h9 : CT} (t0 : gT g this = 12) (P_this : P this) (F0 : FrC P [(12, 0), (12, 1), (12, 44), (22, 5000)] g h0 h) (hf : pX13_sums_b95 g this p1 l8 h = some (r9, h9)) : FrC P [(12, 0), (12, 1), (12, 44), (22, 5000)] g h0 h9 := by
  unfold pX13_sums_b95 at hf
  cases hf
  exact F0
set_option maxRecDepth 10000 in
set_option maxHeartbeats 2000000 in
theorem pX13_sums_b74_fr {P : Nat → Prop} {g : MT} {this : Nat} {p1 : Int32} {l2 : UInt64} {l4 : UInt64} {l6 : UInt64} {s0 : Int32} {h : CT} {h0 : CT} {r9 : Int32} {h9 : CT} (t0 : gT g this = 12) (P_this : P this) (F0 : FrC P [(12, 0), (12, 1), (12, 44), (22, 5000)] g h0 h) (hf : pX13_sums_b74 g this p1 l2 l4 l6 s0 h = some (r9, h9)) : FrC P [(12, 0), (12, 1), (12, 44), (22, 5000)] g h0 h9 := by
  unfold pX13_sums_b74 at hf
  by_cases c1 : (pX13_areAlike l6 l2) = 0
  · rw [if_pos c1] at hf
    by_cases c2 : (pX13_areAlike l6 l4) = 0
    · rw [if_pos c2] at hf
      cases hf
      exact F0
    · rw [if_neg c2] at hf
      exact pX13_sums_b95_fr t0 P_this F0 hf
  · rw [if_neg c1] at hf
    exact pX13_sums_b95_fr t0 P_this F0 hf
set_option maxRecDepth 10000 in
set_option maxHeartbeats 2000000 in
theorem pX13_sums_fr {P : Nat → Prop} {g : MT} {h : CT} {this : Nat} {p1 : Int32} {r9 : Int32} {h9 : CT} (hc : Cl P h) (P_this : P this) (hf : pX13_sums g h this p1 = some (r9, h9)) : FrC P [(12, 0), (12, 1), (12, 44), (22, 5000)] g h h9 := by
  have F0 : FrC P [(12, 0), (12, 1), (12, 44), (22, 5000)] g h h := FrC.rf hc
  unfold pX13_sums at hf
  replace hf := tg_i hf; obtain ⟨t1, hf⟩ := hf
  obtain ⟨h1, e2⟩ : ∃ z, z = (sI h this 1 0) := ⟨_, rfl⟩; replace hf := lt_i hf h1 e2
  have F3 := FrC.sI F0 P_this t1 (Or.inl (by decide)) e2
  obtain ⟨h2, e4⟩ : ∃ z, z = (sI h1 this 0 0) := ⟨_, rfl⟩; replace hf := lt_i hf h2 e4
  have F5 := FrC.sI F3 P_this t1 (Or.inl (by decide)) e4
  by_cases c6 : (pX13_isRow p1) = 0
  · rw [if_pos c6] at hf
    replace hf := bd2_i hf; obtain ⟨x22, h20, q7, hf⟩ := hf
    have F8 := FrC.trans F5 (pX13_refuse_fr F5.1 P_this q7) (by decide)
    cases hf
    exact F8
  · rw [if_neg c6] at hf
    replace hf := bd_i hf; obtain ⟨x4, q9, hf⟩ := hf
    by_cases c10 : x4 = 0
    · rw [if_pos c10] at hf
      replace hf := bd2_i hf; obtain ⟨x9, h7, q11, hf⟩ := hf
      have F12 := FrC.trans F5 (pX13_summed_fr F5.1 P_this q11) (by decide)
      replace hf := bd2_i hf; obtain ⟨x12, h10, q13, hf⟩ := hf
      have F14 := FrC.trans F12 (pX13_summed_fr F12.1 P_this q13) (by decide)
      replace hf := bd2_i hf; obtain ⟨x15, h13, q15, hf⟩ := hf
      have F16 := FrC.trans F14 (pX13_summed_fr F14.1 P_this q15) (by decide)
      by_cases c17 : (pX13_areAlike x9 x12) = 0
      · rw [if_pos c17] at hf
        exact pX13_sums_b74_fr t1 P_this F16 hf
      · rw [if_neg c17] at hf
        exact pX13_sums_b74_fr t1 P_this F16 hf
    · rw [if_neg c10] at hf
      replace hf := bd2_i hf; obtain ⟨x19, h17, q18, hf⟩ := hf
      have F19 := FrC.trans F5 (pX13_refuse_fr F5.1 P_this q18) (by decide)
      cases hf
      exact F19
set_option maxRecDepth 10000 in
set_option maxHeartbeats 2000000 in
theorem pX13_laysRound_b7_fr {P : Nat → Prop} {g : MT} {this : Nat} {p1 : Int32} {p2 : Int32} {k7 : Int32 → CT → Option CT} {l3 : Int32} {h : CT} {h0 : CT} {h9 : CT} (t0 : gT g this = 12) (P_this : P this) (hk7 : ∀ (v0 : Int32) (v1 : CT), FrC P [(12, 48), (12, 49)] g h0 v1 → k7 v0 v1 = some h9 → FrC P [(12, 48), (12, 49)] g h0 h9) (F0 : FrC P [(12, 48), (12, 49)] g h0 h) (hf : pX13_laysRound_b7 g this p1 p2 k7 l3 h = some h9) : FrC P [(12, 48), (12, 49)] g h0 h9 := by
  unfold pX13_laysRound_b7 at hf
  by_cases c1 : ((l3 + 1) / 2) ≤ p2
  · rw [if_pos c1] at hf
    obtain ⟨h2, e2⟩ : ∃ z, z = (sI h this 49 (p2 - ((l3 + 1) / 2))) := ⟨_, rfl⟩; replace hf := lt_i hf h2 e2
    have F3 := FrC.sI F0 P_this t0 (Or.inl (by decide)) e2
    cases hf
    exact F3
  · rw [if_neg c1] at hf
    obtain ⟨x3, e4⟩ : ∃ z, z = ((l3 + 1) / 2) := ⟨_, rfl⟩; replace hf := lt_i hf x3 e4
    obtain ⟨h4, e5⟩ : ∃ z, z = (sI h this 48 ((hI h this 48) + 1)) := ⟨_, rfl⟩; replace hf := lt_i hf h4 e5
    have F6 := FrC.sI F0 P_this t0 (Or.inl (by decide)) e5
    exact hk7 _ _ F6 hf
set_option maxRecDepth 10000 in
set_option maxHeartbeats 2000000 in
theorem pX13_laysRound_l7_fr {P : Nat → Prop} {g : MT} {this : Nat} {p1 : Int32} {p2 : Int32} {h0 : CT} {h9 : CT} (t0 : gT g this = 12) (P_this : P this) : ∀ (n : Nat) (v1 : Int32) (v2 : CT), FrC P [(12, 48), (12, 49)] g h0 v2 → pX13_laysRound_l7 g this p1 p2 n v1 v2 = some h9 → FrC P [(12, 48), (12, 49)] g h0 h9 := by
  intro n
  induction n with
  | zero => intro v1 v2 F0 hf; cases hf
  | succ n ih => intro v1 v2 F0 hf; exact pX13_laysRound_b7_fr t0 P_this ih F0 hf
set_option maxRecDepth 10000 in
set_option maxHeartbeats 2000000 in
theorem pX13_laysRound_fr {P : Nat → Prop} {g : MT} {h : CT} {this : Nat} {p1 : Int32} {p2 : Int32} {h9 : CT} (hc : Cl P h) (P_this : P this) (hf : pX13_laysRound g h this p1 p2 = some h9) : FrC P [(12, 48), (12, 49)] g h h9 := by
  have F0 : FrC P [(12, 48), (12, 49)] g h h := FrC.rf hc
  unfold pX13_laysRound at hf
  replace hf := tg_i hf; obtain ⟨t1, hf⟩ := hf
  obtain ⟨h1, e2⟩ : ∃ z, z = (sI h this 48 0) := ⟨_, rfl⟩; replace hf := lt_i hf h1 e2
  have F3 := FrC.sI F0 P_this t1 (Or.inl (by decide)) e2
  exact pX13_laysRound_l7_fr t1 P_this _ _ _ F3 hf
set_option maxRecDepth 10000 in
set_option maxHeartbeats 2000000 in
theorem pX13_roundOf_fr {P : Nat → Prop} {g : MT} {h : CT} {this : Nat} {p1 : Int32} {p2 : Int32} {r9 : Int32} {h9 : CT} (hc : Cl P h) (P_this : P this) (hf : pX13_roundOf g h this p1 p2 = some (r9, h9)) : FrC P [(12, 0), (12, 1), (12, 48), (12, 49)] g h h9 := by
  have F0 : FrC P [(12, 0), (12, 1), (12, 48), (12, 49)] g h h := FrC.rf hc
  unfold pX13_roundOf at hf
  replace hf := tg_i hf; obtain ⟨t1, hf⟩ := hf
  obtain ⟨h1, e2⟩ : ∃ z, z = (sI h this 1 0) := ⟨_, rfl⟩; replace hf := lt_i hf h1 e2
  have F3 := FrC.sI F0 P_this t1 (Or.inl (by decide)) e2
  obtain ⟨h2, e4⟩ : ∃ z, z = (sI h1 this 0 (pX13_whyNoRound this p1 p2)) := ⟨_, rfl⟩; replace hf := lt_i hf h2 e4
  have F5 := FrC.sI F3 P_this t1 (Or.inl (by decide)) e4
  by_cases c6 : (hI h2 this 0) ≤ 0
  · rw [if_pos c6] at hf
    replace hf := bd_i hf; obtain ⟨h4, q7, hf⟩ := hf
    have F8 := FrC.trans F5 (pX13_laysRound_fr F5.1 P_this q7) (by decide)
    cases hf
    exact F8
  · rw [if_neg c6] at hf
    cases hf
    exact F5
set_option maxRecDepth 10000 in
set_option maxHeartbeats 2000000 in
theorem pX13_partnerOf_fr {P : Nat → Prop} {g : MT} {h : CT} {this : Nat} {p1 : Int32} {p2 : Int32} {r9 : Int32} {h9 : CT} (hc : Cl P h) (P_this : P this) (hf : pX13_partnerOf g h this p1 p2 = some (r9, h9)) : FrC P [(12, 0), (12, 1), (12, 48), (12, 49)] g h h9 := by
  have F0 : FrC P [(12, 0), (12, 1), (12, 48), (12, 49)] g h h := FrC.rf hc
  unfold pX13_partnerOf at hf
  replace hf := tg_i hf; obtain ⟨t1, hf⟩ := hf
  obtain ⟨h1, e2⟩ : ∃ z, z = (sI h this 1 0) := ⟨_, rfl⟩; replace hf := lt_i hf h1 e2
  have F3 := FrC.sI F0 P_this t1 (Or.inl (by decide)) e2
  obtain ⟨h2, e4⟩ : ∃ z, z = (sI h1 this 0 (pX13_whyNoRound this p1 p2)) := ⟨_, rfl⟩; replace hf := lt_i hf h2 e4
  have F5 := FrC.sI F3 P_this t1 (Or.inl (by decide)) e4
  by_cases c6 : (hI h2 this 0) ≤ 0
  · rw [if_pos c6] at hf
    replace hf := bd_i hf; obtain ⟨h4, q7, hf⟩ := hf
    have F8 := FrC.trans F5 (pX13_laysRound_fr F5.1 P_this q7) (by decide)
    cases hf
    exact F8
  · rw [if_neg c6] at hf
    cases hf
    exact F5
set_option maxRecDepth 10000 in
set_option maxHeartbeats 2000000 in
theorem pX13_alone_b34_fr {P : Nat → Prop} {g : MT} {this : Nat} {p1 : Int32} {p2 : Int32} {p3 : Int32} {p4 : Int32} {k34 : Int32 → Int32 → Int32 → CT → Option ((Int32) × CT)} {l5 : Int32} {l6 : Int32} {l7 : Int32} {h : CT} {h0 : CT} {r9 : Int32} {h9 : CT} (t0 : gT g this = 12) (P_this : P this) (hk34 : ∀ (v0 : Int32) (v1 : Int32) (v2 : Int32) (v3 : CT), FrC P [(20, 1000)] g h0 v3 → k34 v0 v1 v2 v3 = some (r9, h9) → FrC P [(20, 1000)] g h0 h9) (F0 : FrC P [(20, 1000)] g h0 h) (hf : pX13_alone_b34 g this p1 p2 p3 p4 k34 l5 l6 l7 h = some (r9, h9)) : FrC P [(20, 1000)] g h0 h9 := by
  unfold pX13_alone_b34 at hf
  by_cases c1 : p3 ≤ l7
  · rw [if_pos c1] at hf
    cases hf
    exact F0
  · rw [if_neg c1] at hf
    replace hf := (dvI_i hf).2
    obtain ⟨x3, e2⟩ : ∃ z, z = (((p1 + (p2 * l7)) - (p1 + (p2 * l7)) / 64 * 64) - ((p1 + (p2 * l7)) - (p1 + (p2 * l7)) / 64 * 64) / p4 * p4) := ⟨_, rfl⟩; replace hf := lt_i hf x3 e2
    obtain ⟨r4, e3⟩ : ∃ z, z = (hR h this 50) := ⟨_, rfl⟩; replace hf := lt_i hf r4 e3
    replace hf := nn_i hf; obtain ⟨a4, e4, hf⟩ := hf
    replace hf := tg_i hf; obtain ⟨t5, hf⟩ := hf
    replace hf := (ix_i hf).2
    obtain ⟨r7, e6⟩ : ∃ z, z = (hR h this 19) := ⟨_, rfl⟩; replace hf := lt_i hf r7 e6
    replace hf := nn_i hf; obtain ⟨a7, e7, hf⟩ := hf
    replace hf := tg_i hf; obtain ⟨t8, hf⟩ := hf
    replace hf := (ix_i hf).2
    obtain ⟨x10, e9⟩ : ∃ z, z = ((hI h a4 (Int32.toNatClampNeg x3)) + (hI h a7 (Int32.toNatClampNeg 2))) := ⟨_, rfl⟩; replace hf := lt_i hf x10 e9
    obtain ⟨x11, e10⟩ : ∃ z, z = (l5 + 1) := ⟨_, rfl⟩; replace hf := lt_i hf x11 e10
    obtain ⟨x12, e11⟩ : ∃ z, z = (l6 + (pJ9_max_7cf53 0 (x10 - x11))) := ⟨_, rfl⟩; replace hf := lt_i hf x12 e11
    obtain ⟨x13, e12⟩ : ∃ z, z = (pJ9_max_7cf53 x11 x10) := ⟨_, rfl⟩; replace hf := lt_i hf x13 e12
    obtain ⟨r14, e13⟩ : ∃ z, z = (hR h this 50) := ⟨_, rfl⟩; replace hf := lt_i hf r14 e13
    replace hf := nn_i hf; obtain ⟨a14, e14, hf⟩ := hf
    replace hf := tg_i hf; obtain ⟨t15, hf⟩ := hf
    replace hf := (ix_i hf).2
    obtain ⟨h17, e16⟩ : ∃ z, z = (sI h a14 (Int32.toNatClampNeg x3) x13) := ⟨_, rfl⟩; replace hf := lt_i hf h17 e16
    have F17 := FrC.sI F0 ((fun b hb => F0.1 _ _ b P_this (e13.symm.trans hb)) _ e14) t15 (Or.inr (by decide)) e16
    obtain ⟨x18, e18⟩ : ∃ z, z = (l7 + 1) := ⟨_, rfl⟩; replace hf := lt_i hf x18 e18
    exact hk34 _ _ _ _ F17 hf
set_option maxRecDepth 10000 in
set_option maxHeartbeats 2000000 in
theorem pX13_alone_l34_fr {P : Nat → Prop} {g : MT} {this : Nat} {p1 : Int32} {p2 : Int32} {p3 : Int32} {p4 : Int32} {h0 : CT} {r9 : Int32} {h9 : CT} (t0 : gT g this = 12) (P_this : P this) : ∀ (n : Nat) (v1 : Int32) (v2 : Int32) (v3 : Int32) (v4 : CT), FrC P [(20, 1000)] g h0 v4 → pX13_alone_l34 g this p1 p2 p3 p4 n v1 v2 v3 v4 = some (r9, h9) → FrC P [(20, 1000)] g h0 h9 := by
  intro n
  induction n with
  | zero => intro v1 v2 v3 v4 F0 hf; cases hf
  | succ n ih => intro v1 v2 v3 v4 F0 hf; exact pX13_alone_b34_fr t0 P_this ih F0 hf
set_option maxRecDepth 10000 in
set_option maxHeartbeats 2000000 in
theorem pX13_alone_b3_fr {P : Nat → Prop} {g : MT} {this : Nat} {p1 : Int32} {p2 : Int32} {p3 : Int32} {p4 : Int32} {k3 : Int32 → CT → Option ((Int32) × CT)} {l5 : Int32} {h : CT} {h0 : CT} {r9 : Int32} {h9 : CT} (t0 : gT g this = 12) (P_this : P this) (hk3 : ∀ (v0 : Int32) (v1 : CT), FrC P [(20, 1000)] g h0 v1 → k3 v0 v1 = some (r9, h9) → FrC P [(20, 1000)] g h0 h9) (F0 : FrC P [(20, 1000)] g h0 h) (hf : pX13_alone_b3 g this p1 p2 p3 p4 k3 l5 h = some (r9, h9)) : FrC P [(20, 1000)] g h0 h9 := by
  unfold pX13_alone_b3 at hf
  by_cases c1 : 16 ≤ l5
  · rw [if_pos c1] at hf
    exact pX13_alone_l34_fr t0 P_this _ _ _ _ _ F0 hf
  · rw [if_neg c1] at hf
    obtain ⟨r2, e2⟩ : ∃ z, z = (hR h this 50) := ⟨_, rfl⟩; replace hf := lt_i hf r2 e2
    replace hf := nn_i hf; obtain ⟨a2, e3, hf⟩ := hf
    replace hf := tg_i hf; obtain ⟨t4, hf⟩ := hf
    replace hf := (ix_i hf).2
    obtain ⟨h5, e5⟩ : ∃ z, z = (sI h a2 (Int32.toNatClampNeg l5) (-12)) := ⟨_, rfl⟩; replace hf := lt_i hf h5 e5
    have F6 := FrC.sI F0 ((fun b hb => F0.1 _ _ b P_this (e2.symm.trans hb)) _ e3) t4 (Or.inr (by decide)) e5
    obtain ⟨x6, e7⟩ : ∃ z, z = (l5 + 1) := ⟨_, rfl⟩; replace hf := lt_i hf x6 e7
    exact hk3 _ _ F6 hf
set_option maxRecDepth 10000 in
set_option maxHeartbeats 2000000 in
theorem pX13_alone_l3_fr {P : Nat → Prop} {g : MT} {this : Nat} {p1 : Int32} {p2 : Int32} {p3 : Int32} {p4 : Int32} {h0 : CT} {r9 : Int32} {h9 : CT} (t0 : gT g this = 12) (P_this : P this) : ∀ (n : Nat) (v1 : Int32) (v2 : CT), FrC P [(20, 1000)] g h0 v2 → pX13_alone_l3 g this p1 p2 p3 p4 n v1 v2 = some (r9, h9) → FrC P [(20, 1000)] g h0 h9 := by
  intro n
  induction n with
  | zero => intro v1 v2 F0 hf; cases hf
  | succ n ih => intro v1 v2 F0 hf; exact pX13_alone_b3_fr t0 P_this ih F0 hf
set_option maxRecDepth 10000 in
set_option maxHeartbeats 2000000 in
theorem pX13_alone_fr {P : Nat → Prop} {g : MT} {h : CT} {this : Nat} {p1 : Int32} {p2 : Int32} {p3 : Int32} {p4 : Int32} {r9 : Int32} {h9 : CT} (hc : Cl P h) (P_this : P this) (hf : pX13_alone g h this p1 p2 p3 p4 = some (r9, h9)) : FrC P [(20, 1000)] g h h9 := by
  have F0 : FrC P [(20, 1000)] g h h := FrC.rf hc
  unfold pX13_alone at hf
  replace hf := tg_i hf; obtain ⟨t1, hf⟩ := hf
  exact pX13_alone_l3_fr t1 P_this _ _ _ F0 hf
set_option maxRecDepth 10000 in
set_option maxHeartbeats 2000000 in
theorem pX13_stalls_fr {P : Nat → Prop} {g : MT} {h : CT} {this : Nat} {p1 : Int32} {p2 : Int32} {p3 : Int32} {r9 : Int32} {h9 : CT} (hc : Cl P h) (P_this : P this) (hf : pX13_stalls g h this p1 p2 p3 = some (r9, h9)) : FrC P [(12, 0), (12, 1), (20, 1000)] g h h9 := by
  have F0 : FrC P [(12, 0), (12, 1), (20, 1000)] g h h := FrC.rf hc
  unfold pX13_stalls at hf
  replace hf := tg_i hf; obtain ⟨t1, hf⟩ := hf
  obtain ⟨h1, e2⟩ : ∃ z, z = (sI h this 1 0) := ⟨_, rfl⟩; replace hf := lt_i hf h1 e2
  have F3 := FrC.sI F0 P_this t1 (Or.inl (by decide)) e2
  obtain ⟨h2, e4⟩ : ∃ z, z = (sI h1 this 0 (pX13_whyNotAlone this p1 p2 p3)) := ⟨_, rfl⟩; replace hf := lt_i hf h2 e4
  have F5 := FrC.sI F3 P_this t1 (Or.inl (by decide)) e4
  by_cases c6 : (hI h2 this 0) ≤ 0
  · rw [if_pos c6] at hf
    obtain ⟨r4, e7⟩ : ∃ z, z = (hR h2 this 19) := ⟨_, rfl⟩; replace hf := lt_i hf r4 e7
    replace hf := nn_i hf; obtain ⟨a4, e8, hf⟩ := hf
    replace hf := tg_i hf; obtain ⟨t9, hf⟩ := hf
    replace hf := (ix_i hf).2
    replace hf := bd2_i hf; obtain ⟨x9, h7, q10, hf⟩ := hf
    have F11 := FrC.trans F5 (pX13_alone_fr F5.1 P_this q10) (by decide)
    cases hf
    exact F11
  · rw [if_neg c6] at hf
    cases hf
    exact F5
set_option maxRecDepth 10000 in
set_option maxHeartbeats 2000000 in
theorem pX13_banksFor_b28_fr {P : Nat → Prop} {g : MT} {this : Nat} {p1 : Int32} {p2 : Int32} {p3 : Int32} {k28 : Int32 → CT → Option ((Int32) × CT)} {l4 : Int32} {h : CT} {h0 : CT} {r9 : Int32} {h9 : CT} (t0 : gT g this = 12) (P_this : P this) (hk28 : ∀ (v0 : Int32) (v1 : CT), FrC P [(12, 0), (12, 1), (20, 1000)] g h0 v1 → k28 v0 v1 = some (r9, h9) → FrC P [(12, 0), (12, 1), (20, 1000)] g h0 h9) (F0 : FrC P [(12, 0), (12, 1), (20, 1000)] g h0 h) (hf : pX13_banksFor_b28 g this p1 p2 p3 k28 l4 h = some (r9, h9)) : FrC P [(12, 0), (12, 1), (20, 1000)] g h0 h9 := by
  unfold pX13_banksFor_b28 at hf
  by_cases c1 : 16 < l4
  · rw [if_pos c1] at hf
    replace hf := bd2_i hf; obtain ⟨x4, h2, q2, hf⟩ := hf
    have F3 := FrC.trans F0 (pX13_refuse_fr F0.1 P_this q2) (by decide)
    cases hf
    exact F3
  · rw [if_neg c1] at hf
    replace hf := bd2_i hf; obtain ⟨x7, h5, q4, hf⟩ := hf
    have F5 := FrC.trans F0 (pX13_alone_fr F0.1 P_this q4) (by decide)
    by_cases c6 : x7 = 0
    · rw [if_pos c6] at hf
      cases hf
      exact F5
    · rw [if_neg c6] at hf
      obtain ⟨x9, e7⟩ : ∃ z, z = (l4 + 1) := ⟨_, rfl⟩; replace hf := lt_i hf x9 e7
      exact hk28 _ _ F5 hf
set_option maxRecDepth 10000 in
set_option maxHeartbeats 2000000 in
theorem pX13_banksFor_l28_fr {P : Nat → Prop} {g : MT} {this : Nat} {p1 : Int32} {p2 : Int32} {p3 : Int32} {h0 : CT} {r9 : Int32} {h9 : CT} (t0 : gT g this = 12) (P_this : P this) : ∀ (n : Nat) (v1 : Int32) (v2 : CT), FrC P [(12, 0), (12, 1), (20, 1000)] g h0 v2 → pX13_banksFor_l28 g this p1 p2 p3 n v1 v2 = some (r9, h9) → FrC P [(12, 0), (12, 1), (20, 1000)] g h0 h9 := by
  intro n
  induction n with
  | zero => intro v1 v2 F0 hf; cases hf
  | succ n ih => intro v1 v2 F0 hf; exact pX13_banksFor_b28_fr t0 P_this ih F0 hf
set_option maxRecDepth 10000 in
set_option maxHeartbeats 2000000 in
theorem pX13_banksFor_fr {P : Nat → Prop} {g : MT} {h : CT} {this : Nat} {p1 : Int32} {p2 : Int32} {p3 : Int32} {r9 : Int32} {h9 : CT} (hc : Cl P h) (P_this : P this) (hf : pX13_banksFor g h this p1 p2 p3 = some (r9, h9)) : FrC P [(12, 0), (12, 1), (20, 1000)] g h h9 := by
  have F0 : FrC P [(12, 0), (12, 1), (20, 1000)] g h h := FrC.rf hc
  unfold pX13_banksFor at hf
  replace hf := tg_i hf; obtain ⟨t1, hf⟩ := hf
  obtain ⟨h1, e2⟩ : ∃ z, z = (sI h this 1 0) := ⟨_, rfl⟩; replace hf := lt_i hf h1 e2
  have F3 := FrC.sI F0 P_this t1 (Or.inl (by decide)) e2
  obtain ⟨h2, e4⟩ : ∃ z, z = (sI h1 this 0 (pX13_whyNotAlone this p1 p2 p3)) := ⟨_, rfl⟩; replace hf := lt_i hf h2 e4
  have F5 := FrC.sI F3 P_this t1 (Or.inl (by decide)) e4
  by_cases c6 : (hI h2 this 0) ≤ 0
  · rw [if_pos c6] at hf
    exact pX13_banksFor_l28_fr t1 P_this _ _ _ F5 hf
  · rw [if_neg c6] at hf
    cases hf
    exact F5
set_option maxRecDepth 10000 in
set_option maxHeartbeats 2000000 in
theorem pX13_worst_b70_fr {P : Nat → Prop} {g : MT} {this : Nat} {p1 : Int32} {p2 : Int32} {k30 : Int32 → Int32 → CT → Option ((Int32) × CT)} {l3 : Int32} {l4 : Int32} {h : CT} {h0 : CT} {r9 : Int32} {h9 : CT} (t0 : gT g this = 12) (P_this : P this) (hk30 : ∀ (v0 : Int32) (v1 : Int32) (v2 : CT), FrC P [(12, 0), (12, 1), (20, 1000)] g h0 v2 → k30 v0 v1 v2 = some (r9, h9) → FrC P [(12, 0), (12, 1), (20, 1000)] g h0 h9) (F0 : FrC P [(12, 0), (12, 1), (20, 1000)] g h0 h) (hf : pX13_worst_b70 g this p1 p2 k30 l3 l4 h = some (r9, h9)) : FrC P [(12, 0), (12, 1), (20, 1000)] g h0 h9 := by
  unfold pX13_worst_b70 at hf
  obtain ⟨x1, e1⟩ : ∃ z, z = (l4 + 1) := ⟨_, rfl⟩; replace hf := lt_i hf x1 e1
  exact hk30 _ _ _ F0 hf
set_option maxRecDepth 10000 in
set_option maxHeartbeats 2000000 in
theorem pX13_worst_b30_fr {P : Nat → Prop} {g : MT} {this : Nat} {p1 : Int32} {p2 : Int32} {k30 : Int32 → Int32 → CT → Option ((Int32) × CT)} {l3 : Int32} {l4 : Int32} {h : CT} {h0 : CT} {r9 : Int32} {h9 : CT} (t0 : gT g this = 12) (P_this : P this) (hk30 : ∀ (v0 : Int32) (v1 : Int32) (v2 : CT), FrC P [(12, 0), (12, 1), (20, 1000)] g h0 v2 → k30 v0 v1 v2 = some (r9, h9) → FrC P [(12, 0), (12, 1), (20, 1000)] g h0 h9) (F0 : FrC P [(12, 0), (12, 1), (20, 1000)] g h0 h) (hf : pX13_worst_b30 g this p1 p2 k30 l3 l4 h = some (r9, h9)) : FrC P [(12, 0), (12, 1), (20, 1000)] g h0 h9 := by
  unfold pX13_worst_b30 at hf
  by_cases c1 : 16 < l4
  · rw [if_pos c1] at hf
    cases hf
    exact F0
  · rw [if_neg c1] at hf
    obtain ⟨r2, e2⟩ : ∃ z, z = (hR h this 19) := ⟨_, rfl⟩; replace hf := lt_i hf r2 e2
    replace hf := nn_i hf; obtain ⟨a2, e3, hf⟩ := hf
    replace hf := tg_i hf; obtain ⟨t4, hf⟩ := hf
    replace hf := (ix_i hf).2
    replace hf := bd2_i hf; obtain ⟨x7, h5, q5, hf⟩ := hf
    have F6 := FrC.trans F0 (pX13_alone_fr F0.1 P_this q5) (by decide)
    obtain ⟨r8, e7⟩ : ∃ z, z = (hR h5 this 19) := ⟨_, rfl⟩; replace hf := lt_i hf r8 e7
    replace hf := nn_i hf; obtain ⟨a8, e8, hf⟩ := hf
    replace hf := tg_i hf; obtain ⟨t9, hf⟩ := hf
    replace hf := (ix_i hf).2
    replace hf := bd2_i hf; obtain ⟨x13, h11, q10, hf⟩ := hf
    have F11 := FrC.trans F6 (pX13_alone_fr F6.1 P_this q10) (by decide)
    by_cases c12 : x7 ≤ x13
    · rw [if_pos c12] at hf
      exact pX13_worst_b70_fr t0 P_this hk30 F11 hf
    · rw [if_neg c12] at hf
      exact pX13_worst_b70_fr t0 P_this hk30 F11 hf
set_option maxRecDepth 10000 in
set_option maxHeartbeats 2000000 in
theorem pX13_worst_l30_fr {P : Nat → Prop} {g : MT} {this : Nat} {p1 : Int32} {p2 : Int32} {h0 : CT} {r9 : Int32} {h9 : CT} (t0 : gT g this = 12) (P_this : P this) : ∀ (n : Nat) (v1 : Int32) (v2 : Int32) (v3 : CT), FrC P [(12, 0), (12, 1), (20, 1000)] g h0 v3 → pX13_worst_l30 g this p1 p2 n v1 v2 v3 = some (r9, h9) → FrC P [(12, 0), (12, 1), (20, 1000)] g h0 h9 := by
  intro n
  induction n with
  | zero => intro v1 v2 v3 F0 hf; cases hf
  | succ n ih => intro v1 v2 v3 F0 hf; exact pX13_worst_b30_fr t0 P_this ih F0 hf
set_option maxRecDepth 10000 in
set_option maxHeartbeats 2000000 in
theorem pX13_worst_fr {P : Nat → Prop} {g : MT} {h : CT} {this : Nat} {p1 : Int32} {p2 : Int32} {r9 : Int32} {h9 : CT} (hc : Cl P h) (P_this : P this) (hf : pX13_worst g h this p1 p2 = some (r9, h9)) : FrC P [(12, 0), (12, 1), (20, 1000)] g h h9 := by
  have F0 : FrC P [(12, 0), (12, 1), (20, 1000)] g h h := FrC.rf hc
  unfold pX13_worst at hf
  replace hf := tg_i hf; obtain ⟨t1, hf⟩ := hf
  obtain ⟨h1, e2⟩ : ∃ z, z = (sI h this 1 0) := ⟨_, rfl⟩; replace hf := lt_i hf h1 e2
  have F3 := FrC.sI F0 P_this t1 (Or.inl (by decide)) e2
  obtain ⟨h2, e4⟩ : ∃ z, z = (sI h1 this 0 (pX13_whyNotAlone this p1 0 p2)) := ⟨_, rfl⟩; replace hf := lt_i hf h2 e4
  have F5 := FrC.sI F3 P_this t1 (Or.inl (by decide)) e4
  by_cases c6 : (hI h2 this 0) ≤ 0
  · rw [if_pos c6] at hf
    exact pX13_worst_l30_fr t1 P_this _ _ _ _ F5 hf
  · rw [if_neg c6] at hf
    cases hf
    exact F5
set_option maxRecDepth 10000 in
set_option maxHeartbeats 2000000 in
theorem pX13_depends_b26_fr {P : Nat → Prop} {g : MT} {this : Nat} {p1 : Int32} {p2 : Int32} {h : CT} {h0 : CT} {r9 : Int32} {h9 : CT} (t0 : gT g this = 12) (P_this : P this) (F0 : FrC P [(12, 0), (12, 1)] g h0 h) (hf : pX13_depends_b26 g this p1 p2 h = some (r9, h9)) : FrC P [(12, 0), (12, 1)] g h0 h9 := by
  unfold pX13_depends_b26 at hf
  replace hf := bd2_i hf; obtain ⟨x3, h1, q1, hf⟩ := hf
  have F2 := FrC.trans F0 (pX13_refuse_fr F0.1 P_this q1) (by decide)
  cases hf
  exact F2
set_option maxRecDepth 10000 in
set_option maxHeartbeats 2000000 in
theorem pX13_depends_fr {P : Nat → Prop} {g : MT} {h : CT} {this : Nat} {p1 : Int32} {p2 : Int32} {r9 : Int32} {h9 : CT} (hc : Cl P h) (P_this : P this) (hf : pX13_depends g h this p1 p2 = some (r9, h9)) : FrC P [(12, 0), (12, 1)] g h h9 := by
  have F0 : FrC P [(12, 0), (12, 1)] g h h := FrC.rf hc
  unfold pX13_depends at hf
  replace hf := tg_i hf; obtain ⟨t1, hf⟩ := hf
  obtain ⟨h1, e2⟩ : ∃ z, z = (sI h this 1 0) := ⟨_, rfl⟩; replace hf := lt_i hf h1 e2
  have F3 := FrC.sI F0 P_this t1 (Or.inl (by decide)) e2
  obtain ⟨h2, e4⟩ : ∃ z, z = (sI h1 this 0 0) := ⟨_, rfl⟩; replace hf := lt_i hf h2 e4
  have F5 := FrC.sI F3 P_this t1 (Or.inl (by decide)) e4
  replace hf := bd_i hf; obtain ⟨x3, q6, hf⟩ := hf
  by_cases c7 : x3 = 0
  · rw [if_pos c7] at hf
    exact pX13_depends_b26_fr t1 P_this F5 hf
  · rw [if_neg c7] at hf
    replace hf := bd_i hf; obtain ⟨x6, q8, hf⟩ := hf
    by_cases c9 : x6 = 0
    · rw [if_pos c9] at hf
      exact pX13_depends_b26_fr t1 P_this F5 hf
    · rw [if_neg c9] at hf
      by_cases c10 : p2 ≤ p1
      · rw [if_pos c10] at hf
        replace hf := bd2_i hf; obtain ⟨x12, h10, q11, hf⟩ := hf
        have F12 := FrC.trans F5 (pX13_refuse_fr F5.1 P_this q11) (by decide)
        cases hf
        exact F12
      · rw [if_neg c10] at hf
        replace hf := bd_i hf; obtain ⟨x13, q13, hf⟩ := hf
        cases hf
        exact F5
set_option maxRecDepth 10000 in
set_option maxHeartbeats 2000000 in
theorem pX13_copy_b41_fr {P : Nat → Prop} {g : MT} {this : Nat} {p1 : Int32} {p2 : Int32} {k41 : Int32 → CT → Option CT} {l3 : Int32} {h : CT} {h0 : CT} {h9 : CT} (t0 : gT g this = 12) (P_this : P this) (hk41 : ∀ (v0 : Int32) (v1 : CT), FrC P [(20, 1000), (22, 5000)] g h0 v1 → k41 v0 v1 = some h9 → FrC P [(20, 1000), (22, 5000)] g h0 h9) (F0 : FrC P [(20, 1000), (22, 5000)] g h0 h) (hf : pX13_copy_b41 g this p1 p2 k41 l3 h = some h9) : FrC P [(20, 1000), (22, 5000)] g h0 h9 := by
  unfold pX13_copy_b41 at hf
  by_cases c1 : 164 ≤ l3
  · rw [if_pos c1] at hf
    cases hf
    exact F0
  · rw [if_neg c1] at hf
    obtain ⟨r2, e2⟩ : ∃ z, z = (hR h this 20) := ⟨_, rfl⟩; replace hf := lt_i hf r2 e2
    obtain ⟨r3, e3⟩ : ∃ z, z = (hR h this 20) := ⟨_, rfl⟩; replace hf := lt_i hf r3 e3
    replace hf := nn_i hf; obtain ⟨a3, e4, hf⟩ := hf
    replace hf := tg_i hf; obtain ⟨t5, hf⟩ := hf
    replace hf := (ix_i hf).2
    replace hf := nn_i hf; obtain ⟨a2, e6, hf⟩ := hf
    replace hf := tg_i hf; obtain ⟨t7, hf⟩ := hf
    replace hf := (ix_i hf).2
    obtain ⟨h8, e8⟩ : ∃ z, z = (sD h a2 (Int32.toNatClampNeg ((164 * p2) + l3)) (hD h a3 (Int32.toNatClampNeg ((164 * p1) + l3)))) := ⟨_, rfl⟩; replace hf := lt_i hf h8 e8
    have F9 := FrC.sD F0 ((fun b hb => F0.1 _ _ b P_this (e2.symm.trans hb)) _ e6) t7 (Or.inr (by decide)) e8
    obtain ⟨x9, e10⟩ : ∃ z, z = (l3 + 1) := ⟨_, rfl⟩; replace hf := lt_i hf x9 e10
    exact hk41 _ _ F9 hf
set_option maxRecDepth 10000 in
set_option maxHeartbeats 2000000 in
theorem pX13_copy_l41_fr {P : Nat → Prop} {g : MT} {this : Nat} {p1 : Int32} {p2 : Int32} {h0 : CT} {h9 : CT} (t0 : gT g this = 12) (P_this : P this) : ∀ (n : Nat) (v1 : Int32) (v2 : CT), FrC P [(20, 1000), (22, 5000)] g h0 v2 → pX13_copy_l41 g this p1 p2 n v1 v2 = some h9 → FrC P [(20, 1000), (22, 5000)] g h0 h9 := by
  intro n
  induction n with
  | zero => intro v1 v2 F0 hf; cases hf
  | succ n ih => intro v1 v2 F0 hf; exact pX13_copy_b41_fr t0 P_this ih F0 hf
set_option maxRecDepth 10000 in
set_option maxHeartbeats 2000000 in
theorem pX13_copy_b2_fr {P : Nat → Prop} {g : MT} {this : Nat} {p1 : Int32} {p2 : Int32} {k2 : Int32 → CT → Option CT} {l3 : Int32} {h : CT} {h0 : CT} {h9 : CT} (t0 : gT g this = 12) (P_this : P this) (hk2 : ∀ (v0 : Int32) (v1 : CT), FrC P [(20, 1000), (22, 5000)] g h0 v1 → k2 v0 v1 = some h9 → FrC P [(20, 1000), (22, 5000)] g h0 h9) (F0 : FrC P [(20, 1000), (22, 5000)] g h0 h) (hf : pX13_copy_b2 g this p1 p2 k2 l3 h = some h9) : FrC P [(20, 1000), (22, 5000)] g h0 h9 := by
  unfold pX13_copy_b2 at hf
  by_cases c1 : 246 ≤ l3
  · rw [if_pos c1] at hf
    exact pX13_copy_l41_fr t0 P_this _ _ _ F0 hf
  · rw [if_neg c1] at hf
    obtain ⟨r2, e2⟩ : ∃ z, z = (hR h this 19) := ⟨_, rfl⟩; replace hf := lt_i hf r2 e2
    obtain ⟨r3, e3⟩ : ∃ z, z = (hR h this 19) := ⟨_, rfl⟩; replace hf := lt_i hf r3 e3
    replace hf := nn_i hf; obtain ⟨a3, e4, hf⟩ := hf
    replace hf := tg_i hf; obtain ⟨t5, hf⟩ := hf
    replace hf := (ix_i hf).2
    replace hf := nn_i hf; obtain ⟨a2, e6, hf⟩ := hf
    replace hf := tg_i hf; obtain ⟨t7, hf⟩ := hf
    replace hf := (ix_i hf).2
    obtain ⟨h8, e8⟩ : ∃ z, z = (sI h a2 (Int32.toNatClampNeg ((246 * p2) + l3)) (hI h a3 (Int32.toNatClampNeg ((246 * p1) + l3)))) := ⟨_, rfl⟩; replace hf := lt_i hf h8 e8
    have F9 := FrC.sI F0 ((fun b hb => F0.1 _ _ b P_this (e2.symm.trans hb)) _ e6) t7 (Or.inr (by decide)) e8
    obtain ⟨x9, e10⟩ : ∃ z, z = (l3 + 1) := ⟨_, rfl⟩; replace hf := lt_i hf x9 e10
    exact hk2 _ _ F9 hf
set_option maxRecDepth 10000 in
set_option maxHeartbeats 2000000 in
theorem pX13_copy_l2_fr {P : Nat → Prop} {g : MT} {this : Nat} {p1 : Int32} {p2 : Int32} {h0 : CT} {h9 : CT} (t0 : gT g this = 12) (P_this : P this) : ∀ (n : Nat) (v1 : Int32) (v2 : CT), FrC P [(20, 1000), (22, 5000)] g h0 v2 → pX13_copy_l2 g this p1 p2 n v1 v2 = some h9 → FrC P [(20, 1000), (22, 5000)] g h0 h9 := by
  intro n
  induction n with
  | zero => intro v1 v2 F0 hf; cases hf
  | succ n ih => intro v1 v2 F0 hf; exact pX13_copy_b2_fr t0 P_this ih F0 hf
set_option maxRecDepth 10000 in
set_option maxHeartbeats 2000000 in
theorem pX13_copy_fr {P : Nat → Prop} {g : MT} {h : CT} {this : Nat} {p1 : Int32} {p2 : Int32} {h9 : CT} (hc : Cl P h) (P_this : P this) (hf : pX13_copy g h this p1 p2 = some h9) : FrC P [(20, 1000), (22, 5000)] g h h9 := by
  have F0 : FrC P [(20, 1000), (22, 5000)] g h h := FrC.rf hc
  unfold pX13_copy at hf
  replace hf := tg_i hf; obtain ⟨t1, hf⟩ := hf
  exact pX13_copy_l2_fr t1 P_this _ _ _ F0 hf
set_option maxRecDepth 10000 in
set_option maxHeartbeats 2000000 in
theorem pX13_exchanges_b2_fr {P : Nat → Prop} {g : MT} {this : Nat} {p1 : Int32} {k2 : Int32 → CT → Option CT} {l2 : Int32} {h : CT} {h0 : CT} {h9 : CT} (t0 : gT g this = 12) (P_this : P this) (hk2 : ∀ (v0 : Int32) (v1 : CT), FrC P [(20, 1000)] g h0 v1 → k2 v0 v1 = some h9 → FrC P [(20, 1000)] g h0 h9) (F0 : FrC P [(20, 1000)] g h0 h) (hf : pX13_exchanges_b2 g this p1 k2 l2 h = some h9) : FrC P [(20, 1000)] g h0 h9 := by
  unfold pX13_exchanges_b2 at hf
  by_cases c1 : 7 ≤ l2
  · rw [if_pos c1] at hf
    cases hf
    exact F0
  · rw [if_neg c1] at hf
    obtain ⟨x2, e2⟩ : ∃ z, z = ((6 + (8 * p1)) + l2) := ⟨_, rfl⟩; replace hf := lt_i hf x2 e2
    obtain ⟨r3, e3⟩ : ∃ z, z = (hR h this 19) := ⟨_, rfl⟩; replace hf := lt_i hf r3 e3
    replace hf := nn_i hf; obtain ⟨a3, e4, hf⟩ := hf
    replace hf := tg_i hf; obtain ⟨t5, hf⟩ := hf
    replace hf := (ix_i hf).2
    obtain ⟨x6, e6⟩ : ∃ z, z = (hI h a3 (Int32.toNatClampNeg x2)) := ⟨_, rfl⟩; replace hf := lt_i hf x6 e6
    obtain ⟨r7, e7⟩ : ∃ z, z = (hR h this 19) := ⟨_, rfl⟩; replace hf := lt_i hf r7 e7
    obtain ⟨r8, e8⟩ : ∃ z, z = (hR h this 19) := ⟨_, rfl⟩; replace hf := lt_i hf r8 e8
    replace hf := nn_i hf; obtain ⟨a8, e9, hf⟩ := hf
    replace hf := tg_i hf; obtain ⟨t10, hf⟩ := hf
    replace hf := (ix_i hf).2
    replace hf := nn_i hf; obtain ⟨a7, e11, hf⟩ := hf
    replace hf := tg_i hf; obtain ⟨t12, hf⟩ := hf
    replace hf := (ix_i hf).2
    obtain ⟨h13, e13⟩ : ∃ z, z = (sI h a7 (Int32.toNatClampNeg x2) (hI h a8 (Int32.toNatClampNeg (x2 + 8)))) := ⟨_, rfl⟩; replace hf := lt_i hf h13 e13
    have F14 := FrC.sI F0 ((fun b hb => F0.1 _ _ b P_this (e7.symm.trans hb)) _ e11) t12 (Or.inr (by decide)) e13
    obtain ⟨r14, e15⟩ : ∃ z, z = (hR h13 this 19) := ⟨_, rfl⟩; replace hf := lt_i hf r14 e15
    replace hf := nn_i hf; obtain ⟨a14, e16, hf⟩ := hf
    replace hf := tg_i hf; obtain ⟨t17, hf⟩ := hf
    replace hf := (ix_i hf).2
    obtain ⟨h17, e18⟩ : ∃ z, z = (sI h13 a14 (Int32.toNatClampNeg (x2 + 8)) x6) := ⟨_, rfl⟩; replace hf := lt_i hf h17 e18
    have F19 := FrC.sI F14 ((fun b hb => F14.1 _ _ b P_this (e15.symm.trans hb)) _ e16) t17 (Or.inr (by decide)) e18
    obtain ⟨x18, e20⟩ : ∃ z, z = (l2 + 1) := ⟨_, rfl⟩; replace hf := lt_i hf x18 e20
    exact hk2 _ _ F19 hf
set_option maxRecDepth 10000 in
set_option maxHeartbeats 2000000 in
theorem pX13_exchanges_l2_fr {P : Nat → Prop} {g : MT} {this : Nat} {p1 : Int32} {h0 : CT} {h9 : CT} (t0 : gT g this = 12) (P_this : P this) : ∀ (n : Nat) (v1 : Int32) (v2 : CT), FrC P [(20, 1000)] g h0 v2 → pX13_exchanges_l2 g this p1 n v1 v2 = some h9 → FrC P [(20, 1000)] g h0 h9 := by
  intro n
  induction n with
  | zero => intro v1 v2 F0 hf; cases hf
  | succ n ih => intro v1 v2 F0 hf; exact pX13_exchanges_b2_fr t0 P_this ih F0 hf
set_option maxRecDepth 10000 in
set_option maxHeartbeats 2000000 in
theorem pX13_exchanges_fr {P : Nat → Prop} {g : MT} {h : CT} {this : Nat} {p1 : Int32} {h9 : CT} (hc : Cl P h) (P_this : P this) (hf : pX13_exchanges g h this p1 = some h9) : FrC P [(20, 1000)] g h h9 := by
  have F0 : FrC P [(20, 1000)] g h h := FrC.rf hc
  unfold pX13_exchanges at hf
  replace hf := tg_i hf; obtain ⟨t1, hf⟩ := hf
  exact pX13_exchanges_l2_fr t1 P_this _ _ _ F0 hf
set_option maxRecDepth 10000 in
set_option maxHeartbeats 2000000 in
theorem pX13_mark_fr {P : Nat → Prop} {g : MT} {h : CT} {this : Nat} {r9 : Int32} {h9 : CT} (hc : Cl P h) (P_this : P this) (hf : pX13_mark g h this = some (r9, h9)) : FrC P [(12, 0), (12, 1), (12, 21), (20, 1000), (22, 5000)] g h h9 := by
  have F0 : FrC P [(12, 0), (12, 1), (12, 21), (20, 1000), (22, 5000)] g h h := FrC.rf hc
  unfold pX13_mark at hf
  replace hf := tg_i hf; obtain ⟨t1, hf⟩ := hf
  obtain ⟨h1, e2⟩ : ∃ z, z = (sI h this 1 0) := ⟨_, rfl⟩; replace hf := lt_i hf h1 e2
  have F3 := FrC.sI F0 P_this t1 (Or.inl (by decide)) e2
  obtain ⟨h2, e4⟩ : ∃ z, z = (sI h1 this 0 0) := ⟨_, rfl⟩; replace hf := lt_i hf h2 e4
  have F5 := FrC.sI F3 P_this t1 (Or.inl (by decide)) e4
  by_cases c6 : (hI h2 this 21) = 3
  · rw [if_pos c6] at hf
    replace hf := bd2_i hf; obtain ⟨x9, h7, q7, hf⟩ := hf
    have F8 := FrC.trans F5 (pX13_refuse_fr F5.1 P_this q7) (by decide)
    cases hf
    exact F8
  · rw [if_neg c6] at hf
    obtain ⟨h4, e9⟩ : ∃ z, z = (sI h2 this 21 ((hI h2 this 21) + 1)) := ⟨_, rfl⟩; replace hf := lt_i hf h4 e9
    have F10 := FrC.sI F5 P_this t1 (Or.inl (by decide)) e9
    replace hf := bd_i hf; obtain ⟨h5, q11, hf⟩ := hf
    have F12 := FrC.trans F10 (pX13_copy_fr F10.1 P_this q11) (by decide)
    cases hf
    exact F12
set_option maxRecDepth 10000 in
set_option maxHeartbeats 2000000 in
theorem pX13_back_fr {P : Nat → Prop} {g : MT} {h : CT} {this : Nat} {r9 : Int32} {h9 : CT} (hc : Cl P h) (P_this : P this) (hf : pX13_back g h this = some (r9, h9)) : FrC P [(12, 0), (12, 1), (12, 21), (12, 22), (20, 1000), (22, 5000)] g h h9 := by
  have F0 : FrC P [(12, 0), (12, 1), (12, 21), (12, 22), (20, 1000), (22, 5000)] g h h := FrC.rf hc
  unfold pX13_back at hf
  replace hf := tg_i hf; obtain ⟨t1, hf⟩ := hf
  obtain ⟨h1, e2⟩ : ∃ z, z = (sI h this 1 0) := ⟨_, rfl⟩; replace hf := lt_i hf h1 e2
  have F3 := FrC.sI F0 P_this t1 (Or.inl (by decide)) e2
  obtain ⟨h2, e4⟩ : ∃ z, z = (sI h1 this 0 0) := ⟨_, rfl⟩; replace hf := lt_i hf h2 e4
  have F5 := FrC.sI F3 P_this t1 (Or.inl (by decide)) e4
  by_cases c6 : (hI h2 this 21) = 0
  · rw [if_pos c6] at hf
    replace hf := bd2_i hf; obtain ⟨x10, h8, q7, hf⟩ := hf
    have F8 := FrC.trans F5 (pX13_refuse_fr F5.1 P_this q7) (by decide)
    cases hf
    exact F8
  · rw [if_neg c6] at hf
    replace hf := bd_i hf; obtain ⟨h4, q9, hf⟩ := hf
    have F10 := FrC.trans F5 (pX13_copy_fr F5.1 P_this q9) (by decide)
    obtain ⟨h6, e11⟩ : ∃ z, z = (sI h4 this 22 0) := ⟨_, rfl⟩; replace hf := lt_i hf h6 e11
    have F12 := FrC.sI F10 P_this t1 (Or.inl (by decide)) e11
    obtain ⟨h7, e13⟩ : ∃ z, z = (sI h6 this 21 ((hI h6 this 21) - 1)) := ⟨_, rfl⟩; replace hf := lt_i hf h7 e13
    have F14 := FrC.sI F12 P_this t1 (Or.inl (by decide)) e13
    cases hf
    exact F14
set_option maxRecDepth 10000 in
set_option maxHeartbeats 2000000 in
theorem pX13_readCode_o_b199_fr {P : Nat → Prop} {g : MT} {fO : CT → Nat → Int32 → Option CT} {this : Nat} {p1 : Int32} {l3 : Int32} {h : CT} {h0 : CT} {h9 : CT} (t0 : gT g this = 12) (hO : ∀ (v0 : CT) (v1 : Nat) (v2 : Int32) (v9 : CT), Cl P v0 → P v1 → fO v0 v1 v2 = some v9 → FrC P [(12, 12), (12, 13), (12, 14), (12, 15), (12, 16), (12, 17), (12, 2018), (20, 1000)] g v0 v9) (P_this : P this) (F0 : FrC P [(12, 12), (12, 13), (12, 14), (12, 15), (12, 16), (12, 17), (12, 2018), (20, 1000)] g h0 h) (hf : pX13_readCode_o_b199 g fO this p1 l3 h = some h9) : FrC P [(12, 12), (12, 13), (12, 14), (12, 15), (12, 16), (12, 17), (12, 2018), (20, 1000)] g h0 h9 := by
  unfold pX13_readCode_o_b199 at hf
  obtain ⟨r1, e1⟩ : ∃ z, z = (hR h this 19) := ⟨_, rfl⟩; replace hf := lt_i hf r1 e1
  obtain ⟨r2, e2⟩ : ∃ z, z = (hR h this 19) := ⟨_, rfl⟩; replace hf := lt_i hf r2 e2
  replace hf := nn_i hf; obtain ⟨a2, e3, hf⟩ := hf
  replace hf := tg_i hf; obtain ⟨t4, hf⟩ := hf
  replace hf := (ix_i hf).2
  replace hf := nn_i hf; obtain ⟨a1, e5, hf⟩ := hf
  replace hf := tg_i hf; obtain ⟨t6, hf⟩ := hf
  replace hf := (ix_i hf).2
  obtain ⟨h7, e7⟩ : ∃ z, z = (sI h a1 (Int32.toNatClampNeg (l3 + 7)) (hI h a2 (Int32.toNatClampNeg 989))) := ⟨_, rfl⟩; replace hf := lt_i hf h7 e7
  have F8 := FrC.sI F0 ((fun b hb => F0.1 _ _ b P_this (e1.symm.trans hb)) _ e5) t6 (Or.inr (by decide)) e7
  cases hf
  exact F8
set_option maxRecDepth 10000 in
set_option maxHeartbeats 2000000 in
theorem pX13_readCode_o_b196_fr {P : Nat → Prop} {g : MT} {fO : CT → Nat → Int32 → Option CT} {this : Nat} {p1 : Int32} {l3 : Int32} {s0 : Nat} {s1 : Int32} {h : CT} {h0 : CT} {h9 : CT} (t0 : gT g this = 12) (hO : ∀ (v0 : CT) (v1 : Nat) (v2 : Int32) (v9 : CT), Cl P v0 → P v1 → fO v0 v1 v2 = some v9 → FrC P [(12, 12), (12, 13), (12, 14), (12, 15), (12, 16), (12, 17), (12, 2018), (20, 1000)] g v0 v9) (P_this : P this) (P_s0 : P s0) (F0 : FrC P [(12, 12), (12, 13), (12, 14), (12, 15), (12, 16), (12, 17), (12, 2018), (20, 1000)] g h0 h) (hf : pX13_readCode_o_b196 g fO this p1 l3 s0 s1 h = some h9) : FrC P [(12, 12), (12, 13), (12, 14), (12, 15), (12, 16), (12, 17), (12, 2018), (20, 1000)] g h0 h9 := by
  unfold pX13_readCode_o_b196 at hf
  replace hf := tg_i hf; obtain ⟨t1, hf⟩ := hf
  replace hf := bd_i hf; obtain ⟨h2, q2, hf⟩ := hf
  have F3 := FrC.trans F0 (pX13_must_fr F0.1 P_s0 q2) (by decide)
  exact pX13_readCode_o_b199_fr t0 hO P_this F3 hf
set_option maxRecDepth 10000 in
set_option maxHeartbeats 2000000 in
theorem pX13_readCode_o_b168_fr {P : Nat → Prop} {g : MT} {fO : CT → Nat → Int32 → Option CT} {this : Nat} {p1 : Int32} {l2 : Int32} {l3 : Int32} {h : CT} {h0 : CT} {h9 : CT} (t0 : gT g this = 12) (hO : ∀ (v0 : CT) (v1 : Nat) (v2 : Int32) (v9 : CT), Cl P v0 → P v1 → fO v0 v1 v2 = some v9 → FrC P [(12, 12), (12, 13), (12, 14), (12, 15), (12, 16), (12, 17), (12, 2018), (20, 1000)] g v0 v9) (P_this : P this) (F0 : FrC P [(12, 12), (12, 13), (12, 14), (12, 15), (12, 16), (12, 17), (12, 2018), (20, 1000)] g h0 h) (hf : pX13_readCode_o_b168 g fO this p1 l2 l3 h = some h9) : FrC P [(12, 12), (12, 13), (12, 14), (12, 15), (12, 16), (12, 17), (12, 2018), (20, 1000)] g h0 h9 := by
  unfold pX13_readCode_o_b168 at hf
  by_cases c1 : l2 = 25
  · rw [if_pos c1] at hf
    replace hf := bd_i hf; obtain ⟨x2, q2, hf⟩ := hf
    replace hf := bd_i hf; obtain ⟨h4, q3, hf⟩ := hf
    have F4 := FrC.trans F0 (pX13_must_fr F0.1 P_this q3) (by decide)
    by_cases c5 : (hI h4 this 14) = 3
    · rw [if_pos c5] at hf
      exact pX13_readCode_o_b196_fr t0 hO P_this P_this F4 hf
    · rw [if_neg c5] at hf
      exact pX13_readCode_o_b196_fr t0 hO P_this P_this F4 hf
  · rw [if_neg c1] at hf
    exact pX13_readCode_o_b199_fr t0 hO P_this F0 hf
set_option maxRecDepth 10000 in
set_option maxHeartbeats 2000000 in
theorem pX13_readCode_o_b140_fr {P : Nat → Prop} {g : MT} {fO : CT → Nat → Int32 → Option CT} {this : Nat} {p1 : Int32} {k140 : Int32 → Int32 → CT → Option CT} {l2 : Int32} {l3 : Int32} {h : CT} {h0 : CT} {h9 : CT} (t0 : gT g this = 12) (hO : ∀ (v0 : CT) (v1 : Nat) (v2 : Int32) (v9 : CT), Cl P v0 → P v1 → fO v0 v1 v2 = some v9 → FrC P [(12, 12), (12, 13), (12, 14), (12, 15), (12, 16), (12, 17), (12, 2018), (20, 1000)] g v0 v9) (P_this : P this) (hk140 : ∀ (v0 : Int32) (v1 : Int32) (v2 : CT), FrC P [(12, 12), (12, 13), (12, 14), (12, 15), (12, 16), (12, 17), (12, 2018), (20, 1000)] g h0 v2 → k140 v0 v1 v2 = some h9 → FrC P [(12, 12), (12, 13), (12, 14), (12, 15), (12, 16), (12, 17), (12, 2018), (20, 1000)] g h0 h9) (F0 : FrC P [(12, 12), (12, 13), (12, 14), (12, 15), (12, 16), (12, 17), (12, 2018), (20, 1000)] g h0 h) (hf : pX13_readCode_o_b140 g fO this p1 k140 l2 l3 h = some h9) : FrC P [(12, 12), (12, 13), (12, 14), (12, 15), (12, 16), (12, 17), (12, 2018), (20, 1000)] g h0 h9 := by
  unfold pX13_readCode_o_b140 at hf
  by_cases c1 : l2 = 25
  · rw [if_pos c1] at hf
    by_cases c2 : (hI h this 12) = 0
    · rw [if_pos c2] at hf
      replace hf := bd_i hf; obtain ⟨x3, q3, hf⟩ := hf
      by_cases c4 : x3 = 0
      · rw [if_pos c4] at hf
        replace hf := bd_i hf; obtain ⟨h6, q5, hf⟩ := hf
        have F6 := FrC.trans F0 (hO _ _ _ _ F0.1 P_this q5) (by decide)
        exact hk140 _ _ _ F6 hf
      · rw [if_neg c4] at hf
        exact pX13_readCode_o_b168_fr t0 hO P_this F0 hf
    · rw [if_neg c2] at hf
      exact pX13_readCode_o_b168_fr t0 hO P_this F0 hf
  · rw [if_neg c1] at hf
    exact pX13_readCode_o_b168_fr t0 hO P_this F0 hf
set_option maxRecDepth 10000 in
set_option maxHeartbeats 2000000 in
theorem pX13_readCode_o_l140_fr {P : Nat → Prop} {g : MT} {fO : CT → Nat → Int32 → Option CT} {this : Nat} {p1 : Int32} {h0 : CT} {h9 : CT} (t0 : gT g this = 12) (hO : ∀ (v0 : CT) (v1 : Nat) (v2 : Int32) (v9 : CT), Cl P v0 → P v1 → fO v0 v1 v2 = some v9 → FrC P [(12, 12), (12, 13), (12, 14), (12, 15), (12, 16), (12, 17), (12, 2018), (20, 1000)] g v0 v9) (P_this : P this) : ∀ (n : Nat) (v1 : Int32) (v2 : Int32) (v3 : CT), FrC P [(12, 12), (12, 13), (12, 14), (12, 15), (12, 16), (12, 17), (12, 2018), (20, 1000)] g h0 v3 → pX13_readCode_o_l140 g fO this p1 n v1 v2 v3 = some h9 → FrC P [(12, 12), (12, 13), (12, 14), (12, 15), (12, 16), (12, 17), (12, 2018), (20, 1000)] g h0 h9 := by
  intro n
  induction n with
  | zero => intro v1 v2 v3 F0 hf; cases hf
  | succ n ih => intro v1 v2 v3 F0 hf; exact pX13_readCode_o_b140_fr t0 hO P_this ih F0 hf
set_option maxRecDepth 10000 in
set_option maxHeartbeats 2000000 in
theorem pX13_readCode_o_b137_fr {P : Nat → Prop} {g : MT} {fO : CT → Nat → Int32 → Option CT} {this : Nat} {p1 : Int32} {l2 : Int32} {l3 : Int32} {s0 : Nat} {s1 : Int32} {h : CT} {h0 : CT} {h9 : CT} (t0 : gT g this = 12) (hO : ∀ (v0 : CT) (v1 : Nat) (v2 : Int32) (v9 : CT), Cl P v0 → P v1 → fO v0 v1 v2 = some v9 → FrC P [(12, 12), (12, 13), (12, 14), (12, 15), (12, 16), (12, 17), (12, 2018), (20, 1000)] g v0 v9) (P_this : P this) (P_s0 : P s0) (F0 : FrC P [(12, 12), (12, 13), (12, 14), (12, 15), (12, 16), (12, 17), (12, 2018), (20, 1000)] g h0 h) (hf : pX13_readCode_o_b137 g fO this p1 l2 l3 s0 s1 h = some h9) : FrC P [(12, 12), (12, 13), (12, 14), (12, 15), (12, 16), (12, 17), (12, 2018), (20, 1000)] g h0 h9 := by
  unfold pX13_readCode_o_b137 at hf
  replace hf := tg_i hf; obtain ⟨t1, hf⟩ := hf
  replace hf := bd_i hf; obtain ⟨h2, q2, hf⟩ := hf
  have F3 := FrC.trans F0 (pX13_must_fr F0.1 P_s0 q2) (by decide)
  exact pX13_readCode_o_l140_fr t0 hO P_this _ _ _ _ F3 hf
set_option maxRecDepth 10000 in
set_option maxHeartbeats 2000000 in
theorem pX13_readCode_o_b70_fr {P : Nat → Prop} {g : MT} {fO : CT → Nat → Int32 → Option CT} {this : Nat} {p1 : Int32} {l2 : Int32} {h : CT} {h0 : CT} {h9 : CT} (t0 : gT g this = 12) (hO : ∀ (v0 : CT) (v1 : Nat) (v2 : Int32) (v9 : CT), Cl P v0 → P v1 → fO v0 v1 v2 = some v9 → FrC P [(12, 12), (12, 13), (12, 14), (12, 15), (12, 16), (12, 17), (12, 2018), (20, 1000)] g v0 v9) (P_this : P this) (F0 : FrC P [(12, 12), (12, 13), (12, 14), (12, 15), (12, 16), (12, 17), (12, 2018), (20, 1000)] g h0 h) (hf : pX13_readCode_o_b70 g fO this p1 l2 h = some h9) : FrC P [(12, 12), (12, 13), (12, 14), (12, 15), (12, 16), (12, 17), (12, 2018), (20, 1000)] g h0 h9 := by
  unfold pX13_readCode_o_b70 at hf
  by_cases c1 : (hI h this 12) ≤ 0
  · rw [if_pos c1] at hf
    obtain ⟨r2, e2⟩ : ∃ z, z = (hR h this 19) := ⟨_, rfl⟩; replace hf := lt_i hf r2 e2
    replace hf := nn_i hf; obtain ⟨a2, e3, hf⟩ := hf
    replace hf := tg_i hf; obtain ⟨t4, hf⟩ := hf
    replace hf := (ix_i hf).2
    obtain ⟨x5, e5⟩ : ∃ z, z = (990 + (8 * (hI h a2 (Int32.toNatClampNeg 989)))) := ⟨_, rfl⟩; replace hf := lt_i hf x5 e5
    obtain ⟨r6, e6⟩ : ∃ z, z = (hR h this 19) := ⟨_, rfl⟩; replace hf := lt_i hf r6 e6
    replace hf := nn_i hf; obtain ⟨a6, e7, hf⟩ := hf
    replace hf := tg_i hf; obtain ⟨t8, hf⟩ := hf
    replace hf := (ix_i hf).2
    replace hf := (ix_i hf).2
    obtain ⟨h10, e9⟩ : ∃ z, z = (sI h a6 (Int32.toNatClampNeg 989) ((hI h a6 (Int32.toNatClampNeg 989)) + 1)) := ⟨_, rfl⟩; replace hf := lt_i hf h10 e9
    have F10 := FrC.sI F0 ((fun b hb => F0.1 _ _ b P_this (e6.symm.trans hb)) _ e7) t8 (Or.inr (by decide)) e9
    replace hf := bd_i hf; obtain ⟨h11, q11, hf⟩ := hf
    have F12 := FrC.trans F10 (pX13_advance_fr F10.1 P_this q11) (by decide)
    obtain ⟨r13, e13⟩ : ∃ z, z = (hR h11 this 19) := ⟨_, rfl⟩; replace hf := lt_i hf r13 e13
    replace hf := nn_i hf; obtain ⟨a13, e14, hf⟩ := hf
    replace hf := tg_i hf; obtain ⟨t15, hf⟩ := hf
    replace hf := (ix_i hf).2
    obtain ⟨h16, e16⟩ : ∃ z, z = (sI h11 a13 (Int32.toNatClampNeg x5) l2) := ⟨_, rfl⟩; replace hf := lt_i hf h16 e16
    have F17 := FrC.sI F12 ((fun b hb => F12.1 _ _ b P_this (e13.symm.trans hb)) _ e14) t15 (Or.inr (by decide)) e16
    replace hf := bd_i hf; obtain ⟨h17, q18, hf⟩ := hf
    have F19 := FrC.trans F17 (pX13_readRest_fr F17.1 P_this q18) (by decide)
    by_cases c20 : (hI h17 this 14) = 3
    · rw [if_pos c20] at hf
      exact pX13_readCode_o_b137_fr t0 hO P_this P_this F19 hf
    · rw [if_neg c20] at hf
      exact pX13_readCode_o_b137_fr t0 hO P_this P_this F19 hf
  · rw [if_neg c1] at hf
    cases hf
    exact F0
set_option maxRecDepth 10000 in
set_option maxHeartbeats 2000000 in
theorem pX13_readCode_o_b43_fr {P : Nat → Prop} {g : MT} {fO : CT → Nat → Int32 → Option CT} {this : Nat} {p1 : Int32} {l2 : Int32} {h : CT} {h0 : CT} {h9 : CT} (t0 : gT g this = 12) (hO : ∀ (v0 : CT) (v1 : Nat) (v2 : Int32) (v9 : CT), Cl P v0 → P v1 → fO v0 v1 v2 = some v9 → FrC P [(12, 12), (12, 13), (12, 14), (12, 15), (12, 16), (12, 17), (12, 2018), (20, 1000)] g v0 v9) (P_this : P this) (F0 : FrC P [(12, 12), (12, 13), (12, 14), (12, 15), (12, 16), (12, 17), (12, 2018), (20, 1000)] g h0 h) (hf : pX13_readCode_o_b43 g fO this p1 l2 h = some h9) : FrC P [(12, 12), (12, 13), (12, 14), (12, 15), (12, 16), (12, 17), (12, 2018), (20, 1000)] g h0 h9 := by
  unfold pX13_readCode_o_b43 at hf
  by_cases c1 : (hI h this 12) = 0
  · rw [if_pos c1] at hf
    by_cases c2 : l2 = 25
    · rw [if_pos c2] at hf
      by_cases c3 : p1 = 0
      · rw [if_pos c3] at hf
        exact pX13_readCode_o_b70_fr t0 hO P_this F0 hf
      · rw [if_neg c3] at hf
        replace hf := bd_i hf; obtain ⟨h4, q4, hf⟩ := hf
        have F5 := FrC.trans F0 (pX13_fail_fr F0.1 P_this q4) (by decide)
        exact pX13_readCode_o_b70_fr t0 hO P_this F5 hf
    · rw [if_neg c2] at hf
      exact pX13_readCode_o_b70_fr t0 hO P_this F0 hf
  · rw [if_neg c1] at hf
    exact pX13_readCode_o_b70_fr t0 hO P_this F0 hf
set_option maxRecDepth 10000 in
set_option maxHeartbeats 2000000 in
theorem pX13_readCode_o_b13_fr {P : Nat → Prop} {g : MT} {fO : CT → Nat → Int32 → Option CT} {this : Nat} {p1 : Int32} {l2 : Int32} {h : CT} {h0 : CT} {h9 : CT} (t0 : gT g this = 12) (hO : ∀ (v0 : CT) (v1 : Nat) (v2 : Int32) (v9 : CT), Cl P v0 → P v1 → fO v0 v1 v2 = some v9 → FrC P [(12, 12), (12, 13), (12, 14), (12, 15), (12, 16), (12, 17), (12, 2018), (20, 1000)] g v0 v9) (P_this : P this) (F0 : FrC P [(12, 12), (12, 13), (12, 14), (12, 15), (12, 16), (12, 17), (12, 2018), (20, 1000)] g h0 h) (hf : pX13_readCode_o_b13 g fO this p1 l2 h = some h9) : FrC P [(12, 12), (12, 13), (12, 14), (12, 15), (12, 16), (12, 17), (12, 2018), (20, 1000)] g h0 h9 := by
  unfold pX13_readCode_o_b13 at hf
  by_cases c1 : (hI h this 12) = 0
  · rw [if_pos c1] at hf
    obtain ⟨r2, e2⟩ : ∃ z, z = (hR h this 19) := ⟨_, rfl⟩; replace hf := lt_i hf r2 e2
    replace hf := nn_i hf; obtain ⟨a2, e3, hf⟩ := hf
    replace hf := tg_i hf; obtain ⟨t4, hf⟩ := hf
    replace hf := (ix_i hf).2
    by_cases c5 : (hI h a2 (Int32.toNatClampNeg 989)) = 30
    · rw [if_pos c5] at hf
      replace hf := bd_i hf; obtain ⟨h6, q6, hf⟩ := hf
      have F7 := FrC.trans F0 (pX13_fail_fr F0.1 P_this q6) (by decide)
      exact pX13_readCode_o_b43_fr t0 hO P_this F7 hf
    · rw [if_neg c5] at hf
      exact pX13_readCode_o_b43_fr t0 hO P_this F0 hf
  · rw [if_neg c1] at hf
    exact pX13_readCode_o_b43_fr t0 hO P_this F0 hf
set_option maxRecDepth 10000 in
set_option maxHeartbeats 2000000 in
theorem pX13_readCode_o_fr {P : Nat → Prop} {g : MT} {fO : CT → Nat → Int32 → Option CT} {h : CT} {this : Nat} {p1 : Int32} {h9 : CT} (hO : ∀ (v0 : CT) (v1 : Nat) (v2 : Int32) (v9 : CT), Cl P v0 → P v1 → fO v0 v1 v2 = some v9 → FrC P [(12, 12), (12, 13), (12, 14), (12, 15), (12, 16), (12, 17), (12, 2018), (20, 1000)] g v0 v9) (hc : Cl P h) (P_this : P this) (hf : pX13_readCode_o g fO h this p1 = some h9) : FrC P [(12, 12), (12, 13), (12, 14), (12, 15), (12, 16), (12, 17), (12, 2018), (20, 1000)] g h h9 := by
  have F0 : FrC P [(12, 12), (12, 13), (12, 14), (12, 15), (12, 16), (12, 17), (12, 2018), (20, 1000)] g h h := FrC.rf hc
  unfold pX13_readCode_o at hf
  replace hf := tg_i hf; obtain ⟨t1, hf⟩ := hf
  replace hf := bd_i hf; obtain ⟨x1, q2, hf⟩ := hf
  by_cases c3 : 0 ≤ x1
  · rw [if_pos c3] at hf
    exact pX13_readCode_o_b13_fr t1 hO P_this F0 hf
  · rw [if_neg c3] at hf
    replace hf := bd_i hf; obtain ⟨h4, q4, hf⟩ := hf
    have F5 := FrC.trans F0 (pX13_amiss_fr F0.1 P_this q4) (by decide)
    exact pX13_readCode_o_b13_fr t1 hO P_this F5 hf
theorem pX13_readCode_r_fr {P : Nat → Prop} {g : MT} : ∀ (n : Nat) (v0 : CT) (v1 : Nat) (v2 : Int32) (v9 : CT), Cl P v0 → P v1 → pX13_readCode_r g n v0 v1 v2 = some v9 → FrC P [(12, 12), (12, 13), (12, 14), (12, 15), (12, 16), (12, 17), (12, 2018), (20, 1000)] g v0 v9 := by
  intro n
  induction n with
  | zero => intro v0 v1 v2 v9 hc P_ hf; cases hf
  | succ n ih => intro v0 v1 v2 v9 hc P_ hf; exact pX13_readCode_o_fr ih hc P_ hf
theorem pX13_readCode_fr {P : Nat → Prop} {g : MT} {h : CT} {this : Nat} {p1 : Int32} {h9 : CT} (hc : Cl P h) (P_this : P this) (hf : pX13_readCode g h this p1 = some h9) : FrC P [(12, 12), (12, 13), (12, 14), (12, 15), (12, 16), (12, 17), (12, 2018), (20, 1000)] g h h9 := FrC.sub (pX13_readCode_r_fr RFUEL _ _ _ _ hc P_this hf) (by decide)
set_option maxRecDepth 10000 in
set_option maxHeartbeats 2000000 in
theorem pX13_feed_fr {P : Nat → Prop} {g : MT} {h : CT} {this : Nat} {p1 : Int32} {p2 : Int32} {p3 : Int32} {p4 : Int32} {p5 : Int32} {r9 : Int32} {h9 : CT} (hc : Cl P h) (P_this : P this) (hf : pX13_feed g h this p1 p2 p3 p4 p5 = some (r9, h9)) : FrC P [(12, 1), (12, 8), (23, 1000)] g h h9 := by
  have F0 : FrC P [(12, 1), (12, 8), (23, 1000)] g h h := FrC.rf hc
  unfold pX13_feed at hf
  replace hf := tg_i hf; obtain ⟨t1, hf⟩ := hf
  obtain ⟨h1, e2⟩ : ∃ z, z = (sI h this 1 0) := ⟨_, rfl⟩; replace hf := lt_i hf h1 e2
  have F3 := FrC.sI F0 P_this t1 (Or.inl (by decide)) e2
  by_cases c4 : ((hI h1 this 8) + 20) ≤ 900
  · rw [if_pos c4] at hf
    replace hf := bd_i hf; obtain ⟨h3, q5, hf⟩ := hf
    have F6 := FrC.trans F3 (pX13_lay_fr F3.1 P_this q5) (by decide)
    replace hf := bd_i hf; obtain ⟨h5, q7, hf⟩ := hf
    have F8 := FrC.trans F6 (pX13_lay_fr F6.1 P_this q7) (by decide)
    replace hf := bd_i hf; obtain ⟨h7, q9, hf⟩ := hf
    have F10 := FrC.trans F8 (pX13_lay_fr F8.1 P_this q9) (by decide)
    replace hf := bd_i hf; obtain ⟨h9, q11, hf⟩ := hf
    have F12 := FrC.trans F10 (pX13_lay_fr F10.1 P_this q11) (by decide)
    replace hf := bd_i hf; obtain ⟨h11, q13, hf⟩ := hf
    have F14 := FrC.trans F12 (pX13_lay_fr F12.1 P_this q13) (by decide)
    cases hf
    exact F14
  · rw [if_neg c4] at hf
    cases hf
    exact F3
set_option maxRecDepth 10000 in
set_option maxHeartbeats 2000000 in
theorem pX13_program_b145_fr {P : Nat → Prop} {g : MT} {this : Nat} {p1 : Int32} {k145 : Int32 → CT → Option ((Int32) × CT)} {l2 : Int32} {h : CT} {h0 : CT} {r9 : Int32} {h9 : CT} (t0 : gT g this = 12) (P_this : P this) (hk145 : ∀ (v0 : Int32) (v1 : CT), FrC P [(12, 0), (12, 1), (12, 8), (12, 9), (12, 10), (12, 11), (12, 12), (12, 13), (12, 14), (12, 15), (12, 16), (12, 17), (12, 22), (12, 2018), (20, 1000)] g h0 v1 → k145 v0 v1 = some (r9, h9) → FrC P [(12, 0), (12, 1), (12, 8), (12, 9), (12, 10), (12, 11), (12, 12), (12, 13), (12, 14), (12, 15), (12, 16), (12, 17), (12, 22), (12, 2018), (20, 1000)] g h0 h9) (F0 : FrC P [(12, 0), (12, 1), (12, 8), (12, 9), (12, 10), (12, 11), (12, 12), (12, 13), (12, 14), (12, 15), (12, 16), (12, 17), (12, 22), (12, 2018), (20, 1000)] g h0 h) (hf : pX13_program_b145 g this p1 k145 l2 h = some (r9, h9)) : FrC P [(12, 0), (12, 1), (12, 8), (12, 9), (12, 10), (12, 11), (12, 12), (12, 13), (12, 14), (12, 15), (12, 16), (12, 17), (12, 22), (12, 2018), (20, 1000)] g h0 h9 := by
  unfold pX13_program_b145 at hf
  by_cases c1 : 246 ≤ l2
  · rw [if_pos c1] at hf
    obtain ⟨h2, e2⟩ : ∃ z, z = (sI h this 22 0) := ⟨_, rfl⟩; replace hf := lt_i hf h2 e2
    have F3 := FrC.sI F0 P_this t0 (Or.inl (by decide)) e2
    obtain ⟨r3, e4⟩ : ∃ z, z = (hR h2 this 19) := ⟨_, rfl⟩; replace hf := lt_i hf r3 e4
    replace hf := nn_i hf; obtain ⟨a3, e5, hf⟩ := hf
    replace hf := tg_i hf; obtain ⟨t6, hf⟩ := hf
    replace hf := (ix_i hf).2
    cases hf
    exact F3
  · rw [if_neg c1] at hf
    obtain ⟨r6, e7⟩ : ∃ z, z = (hR h this 19) := ⟨_, rfl⟩; replace hf := lt_i hf r6 e7
    obtain ⟨r7, e8⟩ : ∃ z, z = (hR h this 19) := ⟨_, rfl⟩; replace hf := lt_i hf r7 e8
    replace hf := nn_i hf; obtain ⟨a7, e9, hf⟩ := hf
    replace hf := tg_i hf; obtain ⟨t10, hf⟩ := hf
    replace hf := (ix_i hf).2
    replace hf := nn_i hf; obtain ⟨a6, e11, hf⟩ := hf
    replace hf := tg_i hf; obtain ⟨t12, hf⟩ := hf
    replace hf := (ix_i hf).2
    obtain ⟨h12, e13⟩ : ∃ z, z = (sI h a6 (Int32.toNatClampNeg l2) (hI h a7 (Int32.toNatClampNeg (984 + l2)))) := ⟨_, rfl⟩; replace hf := lt_i hf h12 e13
    have F14 := FrC.sI F0 ((fun b hb => F0.1 _ _ b P_this (e7.symm.trans hb)) _ e11) t12 (Or.inr (by decide)) e13
    obtain ⟨x13, e15⟩ : ∃ z, z = (l2 + 1) := ⟨_, rfl⟩; replace hf := lt_i hf x13 e15
    exact hk145 _ _ F14 hf
set_option maxRecDepth 10000 in
set_option maxHeartbeats 2000000 in
theorem pX13_program_l145_fr {P : Nat → Prop} {g : MT} {this : Nat} {p1 : Int32} {h0 : CT} {r9 : Int32} {h9 : CT} (t0 : gT g this = 12) (P_this : P this) : ∀ (n : Nat) (v1 : Int32) (v2 : CT), FrC P [(12, 0), (12, 1), (12, 8), (12, 9), (12, 10), (12, 11), (12, 12), (12, 13), (12, 14), (12, 15), (12, 16), (12, 17), (12, 22), (12, 2018), (20, 1000)] g h0 v2 → pX13_program_l145 g this p1 n v1 v2 = some (r9, h9) → FrC P [(12, 0), (12, 1), (12, 8), (12, 9), (12, 10), (12, 11), (12, 12), (12, 13), (12, 14), (12, 15), (12, 16), (12, 17), (12, 22), (12, 2018), (20, 1000)] g h0 h9 := by
  intro n
  induction n with
  | zero => intro v1 v2 F0 hf; cases hf
  | succ n ih => intro v1 v2 F0 hf; exact pX13_program_b145_fr t0 P_this ih F0 hf
set_option maxRecDepth 10000 in
set_option maxHeartbeats 2000000 in
theorem pX13_program_b126_fr {P : Nat → Prop} {g : MT} {this : Nat} {p1 : Int32} {s0 : Nat} {s1 : Int32} {h : CT} {h0 : CT} {r9 : Int32} {h9 : CT} (t0 : gT g this = 12) (P_this : P this) (P_s0 : P s0) (F0 : FrC P [(12, 0), (12, 1), (12, 8), (12, 9), (12, 10), (12, 11), (12, 12), (12, 13), (12, 14), (12, 15), (12, 16), (12, 17), (12, 22), (12, 2018), (20, 1000)] g h0 h) (hf : pX13_program_b126 g this p1 s0 s1 h = some (r9, h9)) : FrC P [(12, 0), (12, 1), (12, 8), (12, 9), (12, 10), (12, 11), (12, 12), (12, 13), (12, 14), (12, 15), (12, 16), (12, 17), (12, 22), (12, 2018), (20, 1000)] g h0 h9 := by
  unfold pX13_program_b126 at hf
  replace hf := tg_i hf; obtain ⟨t1, hf⟩ := hf
  obtain ⟨h2, e2⟩ : ∃ z, z = (sI h s0 11 s1) := ⟨_, rfl⟩; replace hf := lt_i hf h2 e2
  have F3 := FrC.sI F0 P_s0 t1 (Or.inl (by decide)) e2
  by_cases c4 : (hI h2 this 12) ≤ 0
  · rw [if_pos c4] at hf
    exact pX13_program_l145_fr t0 P_this _ _ _ F3 hf
  · rw [if_neg c4] at hf
    replace hf := bd2_i hf; obtain ⟨x6, h4, q5, hf⟩ := hf
    have F6 := FrC.trans F3 (pX13_refuse_fr F3.1 P_this q5) (by decide)
    cases hf
    exact F6
set_option maxRecDepth 10000 in
set_option maxHeartbeats 2000000 in
theorem pX13_program_b102_fr {P : Nat → Prop} {g : MT} {this : Nat} {p1 : Int32} {h : CT} {h0 : CT} {r9 : Int32} {h9 : CT} (t0 : gT g this = 12) (P_this : P this) (F0 : FrC P [(12, 0), (12, 1), (12, 8), (12, 9), (12, 10), (12, 11), (12, 12), (12, 13), (12, 14), (12, 15), (12, 16), (12, 17), (12, 22), (12, 2018), (20, 1000)] g h0 h) (hf : pX13_program_b102 g this p1 h = some (r9, h9)) : FrC P [(12, 0), (12, 1), (12, 8), (12, 9), (12, 10), (12, 11), (12, 12), (12, 13), (12, 14), (12, 15), (12, 16), (12, 17), (12, 22), (12, 2018), (20, 1000)] g h0 h9 := by
  unfold pX13_program_b102 at hf
  obtain ⟨h1, e1⟩ : ∃ z, z = (sI h this 10 (hI h this 12)) := ⟨_, rfl⟩; replace hf := lt_i hf h1 e1
  have F2 := FrC.sI F0 P_this t0 (Or.inl (by decide)) e1
  by_cases c3 : (hI h1 this 12) = 0
  · rw [if_pos c3] at hf
    exact pX13_program_b126_fr t0 P_this P_this F2 hf
  · rw [if_neg c3] at hf
    exact pX13_program_b126_fr t0 P_this P_this F2 hf
set_option maxRecDepth 10000 in
set_option maxHeartbeats 2000000 in
theorem pX13_program_b80_fr {P : Nat → Prop} {g : MT} {this : Nat} {p1 : Int32} {k80 : CT → Option ((Int32) × CT)} {h : CT} {h0 : CT} {r9 : Int32} {h9 : CT} (t0 : gT g this = 12) (P_this : P this) (hk80 : ∀ (v0 : CT), FrC P [(12, 0), (12, 1), (12, 8), (12, 9), (12, 10), (12, 11), (12, 12), (12, 13), (12, 14), (12, 15), (12, 16), (12, 17), (12, 22), (12, 2018), (20, 1000)] g h0 v0 → k80 v0 = some (r9, h9) → FrC P [(12, 0), (12, 1), (12, 8), (12, 9), (12, 10), (12, 11), (12, 12), (12, 13), (12, 14), (12, 15), (12, 16), (12, 17), (12, 22), (12, 2018), (20, 1000)] g h0 h9) (F0 : FrC P [(12, 0), (12, 1), (12, 8), (12, 9), (12, 10), (12, 11), (12, 12), (12, 13), (12, 14), (12, 15), (12, 16), (12, 17), (12, 22), (12, 2018), (20, 1000)] g h0 h) (hf : pX13_program_b80 g this p1 k80 h = some (r9, h9)) : FrC P [(12, 0), (12, 1), (12, 8), (12, 9), (12, 10), (12, 11), (12, 12), (12, 13), (12, 14), (12, 15), (12, 16), (12, 17), (12, 22), (12, 2018), (20, 1000)] g h0 h9 := by
  unfold pX13_program_b80 at hf
  by_cases c1 : (hI h this 12) = 0
  · rw [if_pos c1] at hf
    by_cases c2 : (hI h this 14) = 0
    · rw [if_pos c2] at hf
      exact pX13_program_b102_fr t0 P_this F0 hf
    · rw [if_neg c2] at hf
      replace hf := bd_i hf; obtain ⟨h3, q3, hf⟩ := hf
      have F4 := FrC.trans F0 (pX13_readCode_fr F0.1 P_this q3) (by decide)
      exact hk80 _ F4 hf
  · rw [if_neg c1] at hf
    exact pX13_program_b102_fr t0 P_this F0 hf
set_option maxRecDepth 10000 in
set_option maxHeartbeats 2000000 in
theorem pX13_program_l80_fr {P : Nat → Prop} {g : MT} {this : Nat} {p1 : Int32} {h0 : CT} {r9 : Int32} {h9 : CT} (t0 : gT g this = 12) (P_this : P this) : ∀ (n : Nat) (v1 : CT), FrC P [(12, 0), (12, 1), (12, 8), (12, 9), (12, 10), (12, 11), (12, 12), (12, 13), (12, 14), (12, 15), (12, 16), (12, 17), (12, 22), (12, 2018), (20, 1000)] g h0 v1 → pX13_program_l80 g this p1 n v1 = some (r9, h9) → FrC P [(12, 0), (12, 1), (12, 8), (12, 9), (12, 10), (12, 11), (12, 12), (12, 13), (12, 14), (12, 15), (12, 16), (12, 17), (12, 22), (12, 2018), (20, 1000)] g h0 h9 := by
  intro n
  induction n with
  | zero => intro v1 F0 hf; cases hf
  | succ n ih => intro v1 F0 hf; exact pX13_program_b80_fr t0 P_this ih F0 hf
set_option maxRecDepth 10000 in
set_option maxHeartbeats 2000000 in
theorem pX13_program_b56_fr {P : Nat → Prop} {g : MT} {this : Nat} {p1 : Int32} {k56 : Int32 → CT → Option ((Int32) × CT)} {l2 : Int32} {h : CT} {h0 : CT} {r9 : Int32} {h9 : CT} (t0 : gT g this = 12) (P_this : P this) (hk56 : ∀ (v0 : Int32) (v1 : CT), FrC P [(12, 0), (12, 1), (12, 8), (12, 9), (12, 10), (12, 11), (12, 12), (12, 13), (12, 14), (12, 15), (12, 16), (12, 17), (12, 22), (12, 2018), (20, 1000)] g h0 v1 → k56 v0 v1 = some (r9, h9) → FrC P [(12, 0), (12, 1), (12, 8), (12, 9), (12, 10), (12, 11), (12, 12), (12, 13), (12, 14), (12, 15), (12, 16), (12, 17), (12, 22), (12, 2018), (20, 1000)] g h0 h9) (F0 : FrC P [(12, 0), (12, 1), (12, 8), (12, 9), (12, 10), (12, 11), (12, 12), (12, 13), (12, 14), (12, 15), (12, 16), (12, 17), (12, 22), (12, 2018), (20, 1000)] g h0 h) (hf : pX13_program_b56 g this p1 k56 l2 h = some (r9, h9)) : FrC P [(12, 0), (12, 1), (12, 8), (12, 9), (12, 10), (12, 11), (12, 12), (12, 13), (12, 14), (12, 15), (12, 16), (12, 17), (12, 22), (12, 2018), (20, 1000)] g h0 h9 := by
  unfold pX13_program_b56 at hf
  by_cases c1 : 246 ≤ l2
  · rw [if_pos c1] at hf
    exact pX13_program_l80_fr t0 P_this _ _ F0 hf
  · rw [if_neg c1] at hf
    obtain ⟨r2, e2⟩ : ∃ z, z = (hR h this 19) := ⟨_, rfl⟩; replace hf := lt_i hf r2 e2
    replace hf := nn_i hf; obtain ⟨a2, e3, hf⟩ := hf
    replace hf := tg_i hf; obtain ⟨t4, hf⟩ := hf
    replace hf := (ix_i hf).2
    obtain ⟨h5, e5⟩ : ∃ z, z = (sI h a2 (Int32.toNatClampNeg (984 + l2)) 0) := ⟨_, rfl⟩; replace hf := lt_i hf h5 e5
    have F6 := FrC.sI F0 ((fun b hb => F0.1 _ _ b P_this (e2.symm.trans hb)) _ e3) t4 (Or.inr (by decide)) e5
    obtain ⟨x6, e7⟩ : ∃ z, z = (l2 + 1) := ⟨_, rfl⟩; replace hf := lt_i hf x6 e7
    exact hk56 _ _ F6 hf
set_option maxRecDepth 10000 in
set_option maxHeartbeats 2000000 in
theorem pX13_program_l56_fr {P : Nat → Prop} {g : MT} {this : Nat} {p1 : Int32} {h0 : CT} {r9 : Int32} {h9 : CT} (t0 : gT g this = 12) (P_this : P this) : ∀ (n : Nat) (v1 : Int32) (v2 : CT), FrC P [(12, 0), (12, 1), (12, 8), (12, 9), (12, 10), (12, 11), (12, 12), (12, 13), (12, 14), (12, 15), (12, 16), (12, 17), (12, 22), (12, 2018), (20, 1000)] g h0 v2 → pX13_program_l56 g this p1 n v1 v2 = some (r9, h9) → FrC P [(12, 0), (12, 1), (12, 8), (12, 9), (12, 10), (12, 11), (12, 12), (12, 13), (12, 14), (12, 15), (12, 16), (12, 17), (12, 22), (12, 2018), (20, 1000)] g h0 h9 := by
  intro n
  induction n with
  | zero => intro v1 v2 F0 hf; cases hf
  | succ n ih => intro v1 v2 F0 hf; exact pX13_program_b56_fr t0 P_this ih F0 hf
set_option maxRecDepth 10000 in
set_option maxHeartbeats 2000000 in
theorem pX13_program_fr {P : Nat → Prop} {g : MT} {h : CT} {this : Nat} {p1 : Int32} {r9 : Int32} {h9 : CT} (hc : Cl P h) (P_this : P this) (hf : pX13_program g h this p1 = some (r9, h9)) : FrC P [(12, 0), (12, 1), (12, 8), (12, 9), (12, 10), (12, 11), (12, 12), (12, 13), (12, 14), (12, 15), (12, 16), (12, 17), (12, 22), (12, 2018), (20, 1000)] g h h9 := by
  have F0 : FrC P [(12, 0), (12, 1), (12, 8), (12, 9), (12, 10), (12, 11), (12, 12), (12, 13), (12, 14), (12, 15), (12, 16), (12, 17), (12, 22), (12, 2018), (20, 1000)] g h h := FrC.rf hc
  unfold pX13_program at hf
  replace hf := tg_i hf; obtain ⟨t1, hf⟩ := hf
  obtain ⟨h1, e2⟩ : ∃ z, z = (sI h this 1 0) := ⟨_, rfl⟩; replace hf := lt_i hf h1 e2
  have F3 := FrC.sI F0 P_this t1 (Or.inl (by decide)) e2
  obtain ⟨h2, e4⟩ : ∃ z, z = (sI h1 this 0 0) := ⟨_, rfl⟩; replace hf := lt_i hf h2 e4
  have F5 := FrC.sI F3 P_this t1 (Or.inl (by decide)) e4
  by_cases c6 : (pX13_isIn (Int32.toInt64 p1) 0 (Int32.toInt64 (hI h2 this 8))) = 0
  · rw [if_pos c6] at hf
    replace hf := bd2_i hf; obtain ⟨x12, h10, q7, hf⟩ := hf
    have F8 := FrC.trans F5 (pX13_refuse_fr F5.1 P_this q7) (by decide)
    cases hf
    exact F8
  · rw [if_neg c6] at hf
    obtain ⟨h4, e9⟩ : ∃ z, z = (sI h2 this 9 p1) := ⟨_, rfl⟩; replace hf := lt_i hf h4 e9
    have F10 := FrC.sI F5 P_this t1 (Or.inl (by decide)) e9
    obtain ⟨h5, e11⟩ : ∃ z, z = (sI h4 this 8 0) := ⟨_, rfl⟩; replace hf := lt_i hf h5 e11
    have F12 := FrC.sI F10 P_this t1 (Or.inl (by decide)) e11
    obtain ⟨h6, e13⟩ : ∃ z, z = (sI h5 this 16 0) := ⟨_, rfl⟩; replace hf := lt_i hf h6 e13
    have F14 := FrC.sI F12 P_this t1 (Or.inl (by decide)) e13
    obtain ⟨h7, e15⟩ : ∃ z, z = (sI h6 this 12 0) := ⟨_, rfl⟩; replace hf := lt_i hf h7 e15
    have F16 := FrC.sI F14 P_this t1 (Or.inl (by decide)) e15
    replace hf := bd_i hf; obtain ⟨h8, q17, hf⟩ := hf
    have F18 := FrC.trans F16 (pX13_advance_fr F16.1 P_this q17) (by decide)
    exact pX13_program_l56_fr t1 P_this _ _ _ F18 hf
set_option maxRecDepth 10000 in
set_option maxHeartbeats 2000000 in
theorem pX13_folds_b97_fr {P : Nat → Prop} {g : MT} {this : Nat} {p1 : Int32} {p2 : Int32} {r80 : Option Nat} {s1 : Int32} {s2 : Nat} {s3 : Int32} {s4 : Int32} {s5 : Int32} {h : CT} {h0 : CT} {h9 : CT} (t0 : gT g this = 12) (P_this : P this) (P_r80 : ∀ b, r80 = some b → P b) (P_s2 : P s2) (F0 : FrC P [(12, 31), (12, 34), (12, 37), (12, 38), (12, 39), (12, 40), (12, 44), (20, 1000), (22, 5000)] g h0 h) (hf : pX13_folds_b97 g this p1 p2 r80 s1 s2 s3 s4 s5 h = some h9) : FrC P [(12, 31), (12, 34), (12, 37), (12, 38), (12, 39), (12, 40), (12, 44), (20, 1000), (22, 5000)] g h0 h9 := by
  unfold pX13_folds_b97 at hf
  replace hf := tg_i hf; obtain ⟨t1, hf⟩ := hf
  replace hf := bd2_i hf; obtain ⟨x4, h2, q2, hf⟩ := hf
  have F3 := FrC.trans F0 (pX13_folded_fr F0.1 P_s2 q2) (by decide)
  replace hf := nn_i hf; obtain ⟨a80, e4, hf⟩ := hf
  replace hf := tg_i hf; obtain ⟨t5, hf⟩ := hf
  replace hf := (ix_i hf).2
  obtain ⟨h7, e6⟩ : ∃ z, z = (sD h2 a80 (Int32.toNatClampNeg s1) x4) := ⟨_, rfl⟩; replace hf := lt_i hf h7 e6
  have F7 := FrC.sD F3 (P_r80 _ e4) t5 (Or.inr (by decide)) e6
  replace hf := bd_i hf; obtain ⟨h8, q8, hf⟩ := hf
  have F9 := FrC.trans F7 (pX13_ends_fr F7.1 P_this q8) (by decide)
  cases hf
  exact F9
set_option maxRecDepth 10000 in
set_option maxHeartbeats 2000000 in
theorem pX13_folds_b35_fr {P : Nat → Prop} {g : MT} {this : Nat} {p1 : Int32} {p2 : Int32} {k35 : Int32 → Int32 → CT → Option CT} {l3 : Int32} {l4 : Int32} {h : CT} {h0 : CT} {h9 : CT} (t0 : gT g this = 12) (P_this : P this) (hk35 : ∀ (v0 : Int32) (v1 : Int32) (v2 : CT), FrC P [(12, 31), (12, 34), (12, 37), (12, 38), (12, 39), (12, 40), (12, 44), (20, 1000), (22, 5000)] g h0 v2 → k35 v0 v1 v2 = some h9 → FrC P [(12, 31), (12, 34), (12, 37), (12, 38), (12, 39), (12, 40), (12, 44), (20, 1000), (22, 5000)] g h0 h9) (F0 : FrC P [(12, 31), (12, 34), (12, 37), (12, 38), (12, 39), (12, 40), (12, 44), (20, 1000), (22, 5000)] g h0 h) (hf : pX13_folds_b35 g this p1 p2 k35 l3 l4 h = some h9) : FrC P [(12, 31), (12, 34), (12, 37), (12, 38), (12, 39), (12, 40), (12, 44), (20, 1000), (22, 5000)] g h0 h9 := by
  unfold pX13_folds_b35 at hf
  obtain ⟨r1, e1⟩ : ∃ z, z = (hR h this 19) := ⟨_, rfl⟩; replace hf := lt_i hf r1 e1
  replace hf := nn_i hf; obtain ⟨a1, e2, hf⟩ := hf
  replace hf := tg_i hf; obtain ⟨t3, hf⟩ := hf
  replace hf := (ix_i hf).2
  by_cases c4 : (hI h a1 (Int32.toNatClampNeg 0)) ≤ l4
  · rw [if_pos c4] at hf
    obtain ⟨r5, e5⟩ : ∃ z, z = (hR h this 20) := ⟨_, rfl⟩; replace hf := lt_i hf r5 e5
    replace hf := bd_i hf; obtain ⟨x6, q6, hf⟩ := hf
    obtain ⟨r8, e7⟩ : ∃ z, z = (hR h this 19) := ⟨_, rfl⟩; replace hf := lt_i hf r8 e7
    replace hf := nn_i hf; obtain ⟨a8, e8, hf⟩ := hf
    replace hf := tg_i hf; obtain ⟨t9, hf⟩ := hf
    replace hf := (ix_i hf).2
    replace hf := bd_i hf; obtain ⟨x11, q10, hf⟩ := hf
    by_cases c11 : x11 = 23
    · rw [if_pos c11] at hf
      exact pX13_folds_b97_fr t0 P_this (fun b hb => F0.1 _ _ b P_this (e5.symm.trans hb)) P_this F0 hf
    · rw [if_neg c11] at hf
      exact pX13_folds_b97_fr t0 P_this (fun b hb => F0.1 _ _ b P_this (e5.symm.trans hb)) P_this F0 hf
  · rw [if_neg c4] at hf
    replace hf := bd_i hf; obtain ⟨h14, q12, hf⟩ := hf
    have F13 := FrC.trans F0 (pX13_reads_fr F0.1 P_this q12) (by decide)
    obtain ⟨x16, e14⟩ : ∃ z, z = (l4 + 1) := ⟨_, rfl⟩; replace hf := lt_i hf x16 e14
    exact hk35 _ _ _ F13 hf
set_option maxRecDepth 10000 in
set_option maxHeartbeats 2000000 in
theorem pX13_folds_l35_fr {P : Nat → Prop} {g : MT} {this : Nat} {p1 : Int32} {p2 : Int32} {h0 : CT} {h9 : CT} (t0 : gT g this = 12) (P_this : P this) : ∀ (n : Nat) (v1 : Int32) (v2 : Int32) (v3 : CT), FrC P [(12, 31), (12, 34), (12, 37), (12, 38), (12, 39), (12, 40), (12, 44), (20, 1000), (22, 5000)] g h0 v3 → pX13_folds_l35 g this p1 p2 n v1 v2 v3 = some h9 → FrC P [(12, 31), (12, 34), (12, 37), (12, 38), (12, 39), (12, 40), (12, 44), (20, 1000), (22, 5000)] g h0 h9 := by
  intro n
  induction n with
  | zero => intro v1 v2 v3 F0 hf; cases hf
  | succ n ih => intro v1 v2 v3 F0 hf; exact pX13_folds_b35_fr t0 P_this ih F0 hf
set_option maxRecDepth 10000 in
set_option maxHeartbeats 2000000 in
theorem pX13_folds_b32_fr {P : Nat → Prop} {g : MT} {this : Nat} {p1 : Int32} {p2 : Int32} {l3 : Int32} {h : CT} {h0 : CT} {h9 : CT} (t0 : gT g this = 12) (P_this : P this) (F0 : FrC P [(12, 31), (12, 34), (12, 37), (12, 38), (12, 39), (12, 40), (12, 44), (20, 1000), (22, 5000)] g h0 h) (hf : pX13_folds_b32 g this p1 p2 l3 h = some h9) : FrC P [(12, 31), (12, 34), (12, 37), (12, 38), (12, 39), (12, 40), (12, 44), (20, 1000), (22, 5000)] g h0 h9 := by
  unfold pX13_folds_b32 at hf
  exact pX13_folds_l35_fr t0 P_this _ _ _ _ F0 hf
set_option maxRecDepth 10000 in
set_option maxHeartbeats 2000000 in
theorem pX13_folds_fr {P : Nat → Prop} {g : MT} {h : CT} {this : Nat} {p1 : Int32} {p2 : Int32} {h9 : CT} (hc : Cl P h) (P_this : P this) (hf : pX13_folds g h this p1 p2 = some h9) : FrC P [(12, 31), (12, 34), (12, 37), (12, 38), (12, 39), (12, 40), (12, 44), (20, 1000), (22, 5000)] g h h9 := by
  have F0 : FrC P [(12, 31), (12, 34), (12, 37), (12, 38), (12, 39), (12, 40), (12, 44), (20, 1000), (22, 5000)] g h h := FrC.rf hc
  unfold pX13_folds at hf
  replace hf := tg_i hf; obtain ⟨t1, hf⟩ := hf
  replace hf := bd_i hf; obtain ⟨x1, q2, hf⟩ := hf
  obtain ⟨r3, e3⟩ : ∃ z, z = (hR h this 19) := ⟨_, rfl⟩; replace hf := lt_i hf r3 e3
  replace hf := nn_i hf; obtain ⟨a3, e4, hf⟩ := hf
  replace hf := tg_i hf; obtain ⟨t5, hf⟩ := hf
  replace hf := (ix_i hf).2
  by_cases c6 : (hI h a3 (Int32.toNatClampNeg 0)) ≤ 0
  · rw [if_pos c6] at hf
    exact pX13_folds_b32_fr t1 P_this F0 hf
  · rw [if_neg c6] at hf
    replace hf := bd_i hf; obtain ⟨x7, q7, hf⟩ := hf
    by_cases c8 : x7 = 0
    · rw [if_pos c8] at hf
      exact pX13_folds_b32_fr t1 P_this F0 hf
    · rw [if_neg c8] at hf
      replace hf := bd_i hf; obtain ⟨h10, q9, hf⟩ := hf
      have F10 := FrC.trans F0 (pX13_traps_fr F0.1 P_this q9) (by decide)
      cases hf
      exact F10
set_option maxRecDepth 10000 in
set_option maxHeartbeats 2000000 in
theorem pX13_strips_b98_fr {P : Nat → Prop} {g : MT} {fO : CT → Nat → Int32 → Int32 → Option CT} {this : Nat} {p1 : Int32} {l2 : Int32} {h : CT} {h0 : CT} {h9 : CT} (t0 : gT g this = 12) (hO : ∀ (v0 : CT) (v1 : Nat) (v2 : Int32) (v3 : Int32) (v9 : CT), Cl P v0 → P v1 → fO v0 v1 v2 v3 = some v9 → FrC P [(12, 29), (12, 30), (12, 31), (12, 32), (12, 33), (12, 34), (12, 35), (12, 36), (12, 37), (12, 38), (12, 39), (12, 40), (12, 42), (12, 44), (20, 1000), (22, 5000)] g v0 v9) (P_this : P this) (F0 : FrC P [(12, 29), (12, 30), (12, 31), (12, 32), (12, 33), (12, 34), (12, 35), (12, 36), (12, 37), (12, 38), (12, 39), (12, 40), (12, 42), (12, 44), (20, 1000), (22, 5000)] g h0 h) (hf : pX13_strips_b98 g fO this p1 l2 h = some h9) : FrC P [(12, 29), (12, 30), (12, 31), (12, 32), (12, 33), (12, 34), (12, 35), (12, 36), (12, 37), (12, 38), (12, 39), (12, 40), (12, 42), (12, 44), (20, 1000), (22, 5000)] g h0 h9 := by
  unfold pX13_strips_b98 at hf
  obtain ⟨r1, e1⟩ : ∃ z, z = (hR h this 19) := ⟨_, rfl⟩; replace hf := lt_i hf r1 e1
  replace hf := nn_i hf; obtain ⟨a1, e2, hf⟩ := hf
  replace hf := tg_i hf; obtain ⟨t3, hf⟩ := hf
  replace hf := (ix_i hf).2
  obtain ⟨h4, e4⟩ : ∃ z, z = (sI h a1 (Int32.toNatClampNeg 0) l2) := ⟨_, rfl⟩; replace hf := lt_i hf h4 e4
  have F5 := FrC.sI F0 ((fun b hb => F0.1 _ _ b P_this (e1.symm.trans hb)) _ e2) t3 (Or.inr (by decide)) e4
  obtain ⟨h5, e6⟩ : ∃ z, z = (sI h4 this 33 0) := ⟨_, rfl⟩; replace hf := lt_i hf h5 e6
  have F7 := FrC.sI F5 P_this t0 (Or.inl (by decide)) e6
  cases hf
  exact F7
set_option maxRecDepth 10000 in
set_option maxHeartbeats 2000000 in
theorem pX13_strips_b19_fr {P : Nat → Prop} {g : MT} {fO : CT → Nat → Int32 → Int32 → Option CT} {this : Nat} {p1 : Int32} {k19 : Int32 → Int32 → CT → Option CT} {l2 : Int32} {l3 : Int32} {h : CT} {h0 : CT} {h9 : CT} (t0 : gT g this = 12) (hO : ∀ (v0 : CT) (v1 : Nat) (v2 : Int32) (v3 : Int32) (v9 : CT), Cl P v0 → P v1 → fO v0 v1 v2 v3 = some v9 → FrC P [(12, 29), (12, 30), (12, 31), (12, 32), (12, 33), (12, 34), (12, 35), (12, 36), (12, 37), (12, 38), (12, 39), (12, 40), (12, 42), (12, 44), (20, 1000), (22, 5000)] g v0 v9) (P_this : P this) (hk19 : ∀ (v0 : Int32) (v1 : Int32) (v2 : CT), FrC P [(12, 29), (12, 30), (12, 31), (12, 32), (12, 33), (12, 34), (12, 35), (12, 36), (12, 37), (12, 38), (12, 39), (12, 40), (12, 42), (12, 44), (20, 1000), (22, 5000)] g h0 v2 → k19 v0 v1 v2 = some h9 → FrC P [(12, 29), (12, 30), (12, 31), (12, 32), (12, 33), (12, 34), (12, 35), (12, 36), (12, 37), (12, 38), (12, 39), (12, 40), (12, 42), (12, 44), (20, 1000), (22, 5000)] g h0 h9) (F0 : FrC P [(12, 29), (12, 30), (12, 31), (12, 32), (12, 33), (12, 34), (12, 35), (12, 36), (12, 37), (12, 38), (12, 39), (12, 40), (12, 42), (12, 44), (20, 1000), (22, 5000)] g h0 h) (hf : pX13_strips_b19 g fO this p1 k19 l2 l3 h = some h9) : FrC P [(12, 29), (12, 30), (12, 31), (12, 32), (12, 33), (12, 34), (12, 35), (12, 36), (12, 37), (12, 38), (12, 39), (12, 40), (12, 42), (12, 44), (20, 1000), (22, 5000)] g h0 h9 := by
  unfold pX13_strips_b19 at hf
  by_cases c1 : l3 ≤ 0
  · rw [if_pos c1] at hf
    exact pX13_strips_b98_fr t0 hO P_this F0 hf
  · rw [if_neg c1] at hf
    by_cases c2 : (hI h this 40) = 0
    · rw [if_pos c2] at hf
      obtain ⟨r3, e3⟩ : ∃ z, z = (hR h this 19) := ⟨_, rfl⟩; replace hf := lt_i hf r3 e3
      replace hf := nn_i hf; obtain ⟨a3, e4, hf⟩ := hf
      replace hf := tg_i hf; obtain ⟨t5, hf⟩ := hf
      replace hf := (ix_i hf).2
      obtain ⟨h6, e6⟩ : ∃ z, z = (sI h a3 (Int32.toNatClampNeg 0) (pJ9_min_7cf53 16 l3)) := ⟨_, rfl⟩; replace hf := lt_i hf h6 e6
      have F7 := FrC.sI F0 ((fun b hb => F0.1 _ _ b P_this (e3.symm.trans hb)) _ e4) t5 (Or.inr (by decide)) e6
      replace hf := bd_i hf; obtain ⟨x7, q8, hf⟩ := hf
      replace hf := bd_i hf; obtain ⟨h9, q9, hf⟩ := hf
      have F10 := FrC.trans F7 (hO _ _ _ _ _ F7.1 P_this q9) (by decide)
      by_cases c11 : (hI h9 this 40) = 0
      · rw [if_pos c11] at hf
        replace hf := bd_i hf; obtain ⟨h12, q12, hf⟩ := hf
        have F13 := FrC.trans F10 (pX13_begins_fr F10.1 P_this q12) (by decide)
        obtain ⟨x14, e14⟩ : ∃ z, z = (l3 + (-16)) := ⟨_, rfl⟩; replace hf := lt_i hf x14 e14
        obtain ⟨h15, e15⟩ : ∃ z, z = (sI h12 this 33 ((hI h12 this 33) + 16)) := ⟨_, rfl⟩; replace hf := lt_i hf h15 e15
        have F16 := FrC.sI F13 P_this t0 (Or.inl (by decide)) e15
        exact hk19 _ _ _ F16 hf
      · rw [if_neg c11] at hf
        cases hf
        exact F10
    · rw [if_neg c2] at hf
      exact pX13_strips_b98_fr t0 hO P_this F0 hf
set_option maxRecDepth 10000 in
set_option maxHeartbeats 2000000 in
theorem pX13_strips_l19_fr {P : Nat → Prop} {g : MT} {fO : CT → Nat → Int32 → Int32 → Option CT} {this : Nat} {p1 : Int32} {h0 : CT} {h9 : CT} (t0 : gT g this = 12) (hO : ∀ (v0 : CT) (v1 : Nat) (v2 : Int32) (v3 : Int32) (v9 : CT), Cl P v0 → P v1 → fO v0 v1 v2 v3 = some v9 → FrC P [(12, 29), (12, 30), (12, 31), (12, 32), (12, 33), (12, 34), (12, 35), (12, 36), (12, 37), (12, 38), (12, 39), (12, 40), (12, 42), (12, 44), (20, 1000), (22, 5000)] g v0 v9) (P_this : P this) : ∀ (n : Nat) (v1 : Int32) (v2 : Int32) (v3 : CT), FrC P [(12, 29), (12, 30), (12, 31), (12, 32), (12, 33), (12, 34), (12, 35), (12, 36), (12, 37), (12, 38), (12, 39), (12, 40), (12, 42), (12, 44), (20, 1000), (22, 5000)] g h0 v3 → pX13_strips_l19 g fO this p1 n v1 v2 v3 = some h9 → FrC P [(12, 29), (12, 30), (12, 31), (12, 32), (12, 33), (12, 34), (12, 35), (12, 36), (12, 37), (12, 38), (12, 39), (12, 40), (12, 42), (12, 44), (20, 1000), (22, 5000)] g h0 h9 := by
  intro n
  induction n with
  | zero => intro v1 v2 v3 F0 hf; cases hf
  | succ n ih => intro v1 v2 v3 F0 hf; exact pX13_strips_b19_fr t0 hO P_this ih F0 hf
set_option maxRecDepth 10000 in
set_option maxHeartbeats 2000000 in
theorem pX13_strips_fr {P : Nat → Prop} {g : MT} {fO : CT → Nat → Int32 → Int32 → Option CT} {h : CT} {this : Nat} {p1 : Int32} {h9 : CT} (hO : ∀ (v0 : CT) (v1 : Nat) (v2 : Int32) (v3 : Int32) (v9 : CT), Cl P v0 → P v1 → fO v0 v1 v2 v3 = some v9 → FrC P [(12, 29), (12, 30), (12, 31), (12, 32), (12, 33), (12, 34), (12, 35), (12, 36), (12, 37), (12, 38), (12, 39), (12, 40), (12, 42), (12, 44), (20, 1000), (22, 5000)] g v0 v9) (hc : Cl P h) (P_this : P this) (hf : pX13_strips g fO h this p1 = some h9) : FrC P [(12, 29), (12, 30), (12, 31), (12, 32), (12, 33), (12, 34), (12, 35), (12, 36), (12, 37), (12, 38), (12, 39), (12, 40), (12, 42), (12, 44), (20, 1000), (22, 5000)] g h h9 := by
  have F0 : FrC P [(12, 29), (12, 30), (12, 31), (12, 32), (12, 33), (12, 34), (12, 35), (12, 36), (12, 37), (12, 38), (12, 39), (12, 40), (12, 42), (12, 44), (20, 1000), (22, 5000)] g h h := FrC.rf hc
  unfold pX13_strips at hf
  replace hf := tg_i hf; obtain ⟨t1, hf⟩ := hf
  obtain ⟨r1, e2⟩ : ∃ z, z = (hR h this 19) := ⟨_, rfl⟩; replace hf := lt_i hf r1 e2
  replace hf := nn_i hf; obtain ⟨a1, e3, hf⟩ := hf
  replace hf := tg_i hf; obtain ⟨t4, hf⟩ := hf
  replace hf := (ix_i hf).2
  obtain ⟨x4, e5⟩ : ∃ z, z = (hI h a1 (Int32.toNatClampNeg 0)) := ⟨_, rfl⟩; replace hf := lt_i hf x4 e5
  replace hf := bd_i hf; obtain ⟨x5, q6, hf⟩ := hf
  obtain ⟨h7, e7⟩ : ∃ z, z = (sI h this 33 0) := ⟨_, rfl⟩; replace hf := lt_i hf h7 e7
  have F8 := FrC.sI F0 P_this t1 (Or.inl (by decide)) e7
  exact pX13_strips_l19_fr t1 hO P_this _ _ _ _ F8 hf
set_option maxRecDepth 10000 in
set_option maxHeartbeats 2000000 in
theorem pX13_doOne_b169_fr {P : Nat → Prop} {g : MT} {fO : CT → Nat → Int32 → Int32 → Option CT} {this : Nat} {p1 : Int32} {l2 : Int32} {h : CT} {h0 : CT} {h9 : CT} (t0 : gT g this = 12) (hO : ∀ (v0 : CT) (v1 : Nat) (v2 : Int32) (v3 : Int32) (v9 : CT), Cl P v0 → P v1 → fO v0 v1 v2 v3 = some v9 → FrC P [(12, 29), (12, 30), (12, 31), (12, 32), (12, 33), (12, 34), (12, 35), (12, 36), (12, 37), (12, 38), (12, 39), (12, 40), (12, 42), (12, 44), (20, 1000), (22, 5000)] g v0 v9) (P_this : P this) (F0 : FrC P [(12, 29), (12, 30), (12, 31), (12, 32), (12, 33), (12, 34), (12, 35), (12, 36), (12, 37), (12, 38), (12, 39), (12, 40), (12, 42), (12, 44), (20, 1000), (22, 5000)] g h0 h) (hf : pX13_doOne_b169 g fO this p1 l2 h = some h9) : FrC P [(12, 29), (12, 30), (12, 31), (12, 32), (12, 33), (12, 34), (12, 35), (12, 36), (12, 37), (12, 38), (12, 39), (12, 40), (12, 42), (12, 44), (20, 1000), (22, 5000)] g h0 h9 := by
  unfold pX13_doOne_b169 at hf
  by_cases c1 : l2 = 25
  · rw [if_pos c1] at hf
    replace hf := bd_i hf; obtain ⟨h2, q2, hf⟩ := hf
    have F3 := FrC.trans F0 (pX13_strips_fr hO F0.1 P_this q2) (by decide)
    cases hf
    exact F3
  · rw [if_neg c1] at hf
    cases hf
    exact F0
set_option maxRecDepth 10000 in
set_option maxHeartbeats 2000000 in
theorem pX13_doOne_b152_fr {P : Nat → Prop} {g : MT} {fO : CT → Nat → Int32 → Int32 → Option CT} {this : Nat} {p1 : Int32} {l2 : Int32} {h : CT} {h0 : CT} {h9 : CT} (t0 : gT g this = 12) (hO : ∀ (v0 : CT) (v1 : Nat) (v2 : Int32) (v3 : Int32) (v9 : CT), Cl P v0 → P v1 → fO v0 v1 v2 v3 = some v9 → FrC P [(12, 29), (12, 30), (12, 31), (12, 32), (12, 33), (12, 34), (12, 35), (12, 36), (12, 37), (12, 38), (12, 39), (12, 40), (12, 42), (12, 44), (20, 1000), (22, 5000)] g v0 v9) (P_this : P this) (F0 : FrC P [(12, 29), (12, 30), (12, 31), (12, 32), (12, 33), (12, 34), (12, 35), (12, 36), (12, 37), (12, 38), (12, 39), (12, 40), (12, 42), (12, 44), (20, 1000), (22, 5000)] g h0 h) (hf : pX13_doOne_b152 g fO this p1 l2 h = some h9) : FrC P [(12, 29), (12, 30), (12, 31), (12, 32), (12, 33), (12, 34), (12, 35), (12, 36), (12, 37), (12, 38), (12, 39), (12, 40), (12, 42), (12, 44), (20, 1000), (22, 5000)] g h0 h9 := by
  unfold pX13_doOne_b152 at hf
  by_cases c1 : (hI h this 37) = 0
  · rw [if_pos c1] at hf
    obtain ⟨h2, e2⟩ : ∃ z, z = (sI h this 36 ((hI h this 36) + 1)) := ⟨_, rfl⟩; replace hf := lt_i hf h2 e2
    have F3 := FrC.sI F0 P_this t0 (Or.inl (by decide)) e2
    exact pX13_doOne_b169_fr t0 hO P_this F3 hf
  · rw [if_neg c1] at hf
    exact pX13_doOne_b169_fr t0 hO P_this F0 hf
