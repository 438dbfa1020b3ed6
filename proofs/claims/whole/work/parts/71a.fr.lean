/-! what functions leave as it was (written by wip/whole/frames.py) -/
set_option maxRecDepth 10000 in
set_option maxHeartbeats 2000000 in
theorem pJ7_fill_53178_b5_fr {P : Nat → Prop} {g : MT} {p0 : Nat} {p1 : Int32} {k5 : Int32 → Int32 → CT → Option CT} {l2 : Int32} {l3 : Int32} {h : CT} {h0 : CT} {h9 : CT} (P_p0 : P p0) (hk5 : ∀ (v0 : Int32) (v1 : Int32) (v2 : CT), FrC P [(20, 1000)] g h0 v2 → k5 v0 v1 v2 = some h9 → FrC P [(20, 1000)] g h0 h9) (F0 : FrC P [(20, 1000)] g h0 h) (hf : pJ7_fill_53178_b5 g p0 p1 k5 l2 l3 h = some h9) : FrC P [(20, 1000)] g h0 h9 := by
  unfold pJ7_fill_53178_b5 at hf
  by_cases c1 : l3 ≤ l2
  · rw [if_pos c1] at hf
    cases hf
    exact F0
  · rw [if_neg c1] at hf
    replace hf := tg_i hf; obtain ⟨t2, hf⟩ := hf
    replace hf := (ix_i hf).2
    obtain ⟨h4, e3⟩ : ∃ z, z = (sI h p0 (Int32.toNatClampNeg l2) p1) := ⟨_, rfl⟩; replace hf := lt_i hf h4 e3
    have F4 := FrC.sI F0 P_p0 t2 (Or.inr (by decide)) e3
    obtain ⟨x5, e5⟩ : ∃ z, z = (l2 + 1) := ⟨_, rfl⟩; replace hf := lt_i hf x5 e5
    exact hk5 _ _ _ F4 hf
set_option maxRecDepth 10000 in
set_option maxHeartbeats 2000000 in
theorem pJ7_fill_53178_l5_fr {P : Nat → Prop} {g : MT} {p0 : Nat} {p1 : Int32} {h0 : CT} {h9 : CT} (P_p0 : P p0) : ∀ (n : Nat) (v1 : Int32) (v2 : Int32) (v3 : CT), FrC P [(20, 1000)] g h0 v3 → pJ7_fill_53178_l5 g p0 p1 n v1 v2 v3 = some h9 → FrC P [(20, 1000)] g h0 h9 := by
  intro n
  induction n with
  | zero => intro v1 v2 v3 F0 hf; cases hf
  | succ n ih => intro v1 v2 v3 F0 hf; exact pJ7_fill_53178_b5_fr P_p0 ih F0 hf
set_option maxRecDepth 10000 in
set_option maxHeartbeats 2000000 in
theorem pJ7_fill_53178_fr {P : Nat → Prop} {g : MT} {h : CT} {p0 : Nat} {p1 : Int32} {h9 : CT} (hc : Cl P h) (P_p0 : P p0) (hf : pJ7_fill_53178 g h p0 p1 = some h9) : FrC P [(20, 1000)] g h h9 := by
  have F0 : FrC P [(20, 1000)] g h h := FrC.rf hc
  unfold pJ7_fill_53178 at hf
  replace hf := tg_i hf; obtain ⟨t1, hf⟩ := hf
  obtain ⟨x2, e2⟩ : ∃ z, z = (Int32.ofNat (gL g p0)) := ⟨_, rfl⟩; replace hf := lt_i hf x2 e2
  exact pJ7_fill_53178_l5_fr P_p0 _ _ _ _ F0 hf
set_option maxRecDepth 10000 in
set_option maxHeartbeats 2000000 in
theorem pJ7_fill_d0a16_b6_fr {P : Nat → Prop} {g : MT} {p0 : Nat} {p1 : Int64} {k6 : Int32 → Int32 → CT → Option CT} {l3 : Int32} {l4 : Int32} {h : CT} {h0 : CT} {h9 : CT} (P_p0 : P p0) (hk6 : ∀ (v0 : Int32) (v1 : Int32) (v2 : CT), FrC P [(21, 3000)] g h0 v2 → k6 v0 v1 v2 = some h9 → FrC P [(21, 3000)] g h0 h9) (F0 : FrC P [(21, 3000)] g h0 h) (hf : pJ7_fill_d0a16_b6 g p0 p1 k6 l3 l4 h = some h9) : FrC P [(21, 3000)] g h0 h9 := by
  unfold pJ7_fill_d0a16_b6 at hf
  by_cases c1 : l4 ≤ l3
  · rw [if_pos c1] at hf
    cases hf
    exact F0
  · rw [if_neg c1] at hf
    replace hf := tg_i hf; obtain ⟨t2, hf⟩ := hf
    replace hf := (ix_i hf).2
    obtain ⟨h4, e3⟩ : ∃ z, z = (sL h p0 (Int32.toNatClampNeg l3) p1) := ⟨_, rfl⟩; replace hf := lt_i hf h4 e3
    have F4 := FrC.sL F0 P_p0 t2 (Or.inr (by decide)) e3
    obtain ⟨x5, e5⟩ : ∃ z, z = (l3 + 1) := ⟨_, rfl⟩; replace hf := lt_i hf x5 e5
    exact hk6 _ _ _ F4 hf
set_option maxRecDepth 10000 in
set_option maxHeartbeats 2000000 in
theorem pJ7_fill_d0a16_l6_fr {P : Nat → Prop} {g : MT} {p0 : Nat} {p1 : Int64} {h0 : CT} {h9 : CT} (P_p0 : P p0) : ∀ (n : Nat) (v1 : Int32) (v2 : Int32) (v3 : CT), FrC P [(21, 3000)] g h0 v3 → pJ7_fill_d0a16_l6 g p0 p1 n v1 v2 v3 = some h9 → FrC P [(21, 3000)] g h0 h9 := by
  intro n
  induction n with
  | zero => intro v1 v2 v3 F0 hf; cases hf
  | succ n ih => intro v1 v2 v3 F0 hf; exact pJ7_fill_d0a16_b6_fr P_p0 ih F0 hf
set_option maxRecDepth 10000 in
set_option maxHeartbeats 2000000 in
theorem pJ7_fill_d0a16_fr {P : Nat → Prop} {g : MT} {h : CT} {p0 : Nat} {p1 : Int64} {h9 : CT} (hc : Cl P h) (P_p0 : P p0) (hf : pJ7_fill_d0a16 g h p0 p1 = some h9) : FrC P [(21, 3000)] g h h9 := by
  have F0 : FrC P [(21, 3000)] g h h := FrC.rf hc
  unfold pJ7_fill_d0a16 at hf
  replace hf := tg_i hf; obtain ⟨t1, hf⟩ := hf
  obtain ⟨x2, e2⟩ : ∃ z, z = (Int32.ofNat (gL g p0)) := ⟨_, rfl⟩; replace hf := lt_i hf x2 e2
  exact pJ7_fill_d0a16_l6_fr P_p0 _ _ _ _ F0 hf
set_option maxRecDepth 10000 in
set_option maxHeartbeats 2000000 in
theorem pJ0_checkIndex_df160_fr {P : Nat → Prop} {E : EC} {g : MT} {h : CT} {p0 : Int32} {p1 : Int32} {h9 : CT} (PE : PEc P E) (hc : Cl P h) (hf : pJ0_checkIndex_df160 E g h p0 p1 = some h9) : FrC P [] g h h9 := by
  have F0 : FrC P [] g h h := FrC.rf hc
  unfold pJ0_checkIndex_df160 at hf
  replace hf := kQ_i hf; obtain ⟨r1, e1, hf⟩ := hf
  replace hf := bd_i hf; obtain ⟨x2, q3, hf⟩ := hf
  cases hf
  exact F0
set_option maxRecDepth 10000 in
set_option maxHeartbeats 2000000 in
theorem pJ1_charAt_3b067_fr {P : Nat → Prop} {E : EC} {g : MT} {h : CT} {p0 : Nat} {p1 : Int32} {r9 : Int32} {h9 : CT} (PE : PEc P E) (hc : Cl P h) (P_p0 : P p0) (hf : pJ1_charAt_3b067 E g h p0 p1 = some (r9, h9)) : FrC P [] g h h9 := by
  have F0 : FrC P [] g h h := FrC.rf hc
  unfold pJ1_charAt_3b067 at hf
  replace hf := tg_i hf; obtain ⟨t1, hf⟩ := hf
  replace hf := bd_i hf; obtain ⟨h2, q2, hf⟩ := hf
  have F3 := FrC.trans F0 (pJ0_checkIndex_df160_fr PE F0.1 q2) (by decide)
  replace hf := (ix_i hf).2
  replace hf := (nr_i hf).2
  cases hf
  exact F3
set_option maxRecDepth 10000 in
set_option maxHeartbeats 2000000 in
theorem pJ0_charAt_5068e_fr {P : Nat → Prop} {E : EC} {g : MT} {h : CT} {this : Nat} {p1 : Int32} {r9 : Int32} {h9 : CT} (PE : PEc P E) (hc : Cl P h) (P_this : P this) (hf : pJ0_charAt_5068e E g h this p1 = some (r9, h9)) : FrC P [] g h h9 := by
  have F0 : FrC P [] g h h := FrC.rf hc
  unfold pJ0_charAt_5068e at hf
  replace hf := tg_i hf; obtain ⟨t1, hf⟩ := hf
  replace hf := bd_i hf; obtain ⟨x2, q2, hf⟩ := hf
  by_cases c3 : x2 = 0
  · rw [if_pos c3] at hf
    obtain ⟨r5, e4⟩ : ∃ z, z = (hR E.2.1 this 0) := ⟨_, rfl⟩; replace hf := lt_i hf r5 e4
    cases hf
  · rw [if_neg c3] at hf
    obtain ⟨r6, e5⟩ : ∃ z, z = (hR E.2.1 this 0) := ⟨_, rfl⟩; replace hf := lt_i hf r6 e5
    replace hf := nn_i hf; obtain ⟨a6, e6, hf⟩ := hf
    replace hf := bd2_i hf; obtain ⟨x9, h7, q7, hf⟩ := hf
    have F8 := FrC.trans F0 (pJ1_charAt_3b067_fr PE F0.1 ((fun b hb => PE.2 _ _ b (e5.symm.trans hb)) _ e6) q7) (by decide)
    replace hf := (nr_i hf).2
    cases hf
    exact F8
set_option maxRecDepth 10000 in
set_option maxHeartbeats 2000000 in
theorem pX4_set_fr {P : Nat → Prop} {g : MT} {h : CT} {this : Nat} {p1 : UInt64} {h9 : CT} (hc : Cl P h) (P_this : P this) (hf : pX4_set g h this p1 = some h9) : FrC P [(4, 1), (4, 4000)] g h h9 := by
  have F0 : FrC P [(4, 1), (4, 4000)] g h h := FrC.rf hc
  unfold pX4_set at hf
  replace hf := tg_i hf; obtain ⟨t1, hf⟩ := hf
  obtain ⟨h1, e2⟩ : ∃ z, z = (sD h this 0 p1) := ⟨_, rfl⟩; replace hf := lt_i hf h1 e2
  have F3 := FrC.sD F0 P_this t1 (Or.inl (by decide)) e2
  obtain ⟨h2, e4⟩ : ∃ z, z = (sI h1 this 1 0) := ⟨_, rfl⟩; replace hf := lt_i hf h2 e4
  have F5 := FrC.sI F3 P_this t1 (Or.inl (by decide)) e4
  cases hf
  exact F5
set_option maxRecDepth 10000 in
set_option maxHeartbeats 2000000 in
theorem pX4_setOdd_fr {P : Nat → Prop} {g : MT} {h : CT} {this : Nat} {h9 : CT} (hc : Cl P h) (P_this : P this) (hf : pX4_setOdd g h this = some h9) : FrC P [(4, 1), (4, 4000)] g h h9 := by
  have F0 : FrC P [(4, 1), (4, 4000)] g h h := FrC.rf hc
  unfold pX4_setOdd at hf
  replace hf := tg_i hf; obtain ⟨t1, hf⟩ := hf
  obtain ⟨h1, e2⟩ : ∃ z, z = (sD h this 0 0) := ⟨_, rfl⟩; replace hf := lt_i hf h1 e2
  have F3 := FrC.sD F0 P_this t1 (Or.inl (by decide)) e2
  obtain ⟨h2, e4⟩ : ∃ z, z = (sI h1 this 1 1) := ⟨_, rfl⟩; replace hf := lt_i hf h2 e4
  have F5 := FrC.sI F3 P_this t1 (Or.inl (by decide)) e4
  cases hf
  exact F5
set_option maxRecDepth 10000 in
set_option maxHeartbeats 2000000 in
theorem pX4_setKind_fr {P : Nat → Prop} {g : MT} {h : CT} {this : Nat} {p1 : Int32} {h9 : CT} (hc : Cl P h) (P_this : P this) (hf : pX4_setKind g h this p1 = some h9) : FrC P [(4, 1), (4, 4000)] g h h9 := by
  have F0 : FrC P [(4, 1), (4, 4000)] g h h := FrC.rf hc
  unfold pX4_setKind at hf
  replace hf := tg_i hf; obtain ⟨t1, hf⟩ := hf
  by_cases c2 : p1 = 2
  · rw [if_pos c2] at hf
    replace hf := bd_i hf; obtain ⟨h2, q3, hf⟩ := hf
    have F4 := FrC.trans F0 (pX4_set_fr F0.1 P_this q3) (by decide)
    cases hf
    exact F4
  · rw [if_neg c2] at hf
    by_cases c5 : p1 = 3
    · rw [if_pos c5] at hf
      replace hf := bd_i hf; obtain ⟨h5, q6, hf⟩ := hf
      have F7 := FrC.trans F0 (pX4_set_fr F0.1 P_this q6) (by decide)
      cases hf
      exact F7
    · rw [if_neg c5] at hf
      by_cases c8 : p1 = 4
      · rw [if_pos c8] at hf
        replace hf := bd_i hf; obtain ⟨h8, q9, hf⟩ := hf
        have F10 := FrC.trans F0 (pX4_set_fr F0.1 P_this q9) (by decide)
        cases hf
        exact F10
      · rw [if_neg c8] at hf
        by_cases c11 : p1 = 5
        · rw [if_pos c11] at hf
          replace hf := bd_i hf; obtain ⟨h11, q12, hf⟩ := hf
          have F13 := FrC.trans F0 (pX4_setOdd_fr F0.1 P_this q12) (by decide)
          cases hf
          exact F13
        · rw [if_neg c11] at hf
          replace hf := bd_i hf; obtain ⟨h13, q14, hf⟩ := hf
          have F15 := FrC.trans F0 (pX4_set_fr F0.1 P_this q14) (by decide)
          cases hf
          exact F15
set_option maxRecDepth 10000 in
set_option maxHeartbeats 2000000 in
theorem pX4_takesOdd_b14_fr {P : Nat → Prop} {g : MT} {this : Nat} {p1 : Nat} {h : CT} {h0 : CT} {r9 : Int32} {h9 : CT} (t0 : gT g this = 4) (P_this : P this) (P_p1 : P p1) (F0 : FrC P [(4, 1), (4, 4000)] g h0 h) (hf : pX4_takesOdd_b14 g this p1 h = some (r9, h9)) : FrC P [(4, 1), (4, 4000)] g h0 h9 := by
  unfold pX4_takesOdd_b14 at hf
  obtain ⟨h1, e1⟩ : ∃ z, z = (sD h this 0 0) := ⟨_, rfl⟩; replace hf := lt_i hf h1 e1
  have F2 := FrC.sD F0 P_this t0 (Or.inl (by decide)) e1
  obtain ⟨h2, e3⟩ : ∃ z, z = (sI h1 this 1 1) := ⟨_, rfl⟩; replace hf := lt_i hf h2 e3
  have F4 := FrC.sI F2 P_this t0 (Or.inl (by decide)) e3
  replace hf := (bz_i hf).2
  cases hf
  exact F4
set_option maxRecDepth 10000 in
set_option maxHeartbeats 2000000 in
theorem pX4_takesOdd_fr {P : Nat → Prop} {g : MT} {h : CT} {this : Nat} {p1 : Nat} {r9 : Int32} {h9 : CT} (hc : Cl P h) (P_this : P this) (P_p1 : P p1) (hf : pX4_takesOdd g h this p1 = some (r9, h9)) : FrC P [(4, 1), (4, 4000)] g h h9 := by
  have F0 : FrC P [(4, 1), (4, 4000)] g h h := FrC.rf hc
  unfold pX4_takesOdd at hf
  replace hf := tg_i hf; obtain ⟨t1, hf⟩ := hf
  by_cases c2 : (hI h this 1) = 0
  · rw [if_pos c2] at hf
    replace hf := tg_i hf; obtain ⟨t3, hf⟩ := hf
    by_cases c4 : (hI h p1 1) = 0
    · rw [if_pos c4] at hf
      replace hf := (bz_i hf).2
      cases hf
      exact F0
    · rw [if_neg c4] at hf
      exact pX4_takesOdd_b14_fr t1 P_this P_p1 F0 hf
  · rw [if_neg c2] at hf
    exact pX4_takesOdd_b14_fr t1 P_this P_p1 F0 hf
set_option maxRecDepth 10000 in
set_option maxHeartbeats 2000000 in
theorem pX4_plus_b39_fr {P : Nat → Prop} {g : MT} {this : Nat} {p1 : Nat} {h : CT} {h0 : CT} {h9 : CT} (t0 : gT g this = 4) (P_this : P this) (P_p1 : P p1) (F0 : FrC P [(4, 1), (4, 4000)] g h0 h) (hf : pX4_plus_b39 g this p1 h = some h9) : FrC P [(4, 1), (4, 4000)] g h0 h9 := by
  unfold pX4_plus_b39 at hf
  replace hf := tg_i hf; obtain ⟨t1, hf⟩ := hf
  obtain ⟨h2, e2⟩ : ∃ z, z = (sD h this 0 (fadd (hD h this 0) (hD h p1 0))) := ⟨_, rfl⟩; replace hf := lt_i hf h2 e2
  have F3 := FrC.sD F0 P_this t0 (Or.inl (by decide)) e2
  cases hf
  exact F3
set_option maxRecDepth 10000 in
set_option maxHeartbeats 2000000 in
theorem pX4_plus_fr {P : Nat → Prop} {g : MT} {h : CT} {this : Nat} {p1 : Nat} {h9 : CT} (hc : Cl P h) (P_this : P this) (P_p1 : P p1) (hf : pX4_plus g h this p1 = some h9) : FrC P [(4, 1), (4, 4000)] g h h9 := by
  have F0 : FrC P [(4, 1), (4, 4000)] g h h := FrC.rf hc
  unfold pX4_plus at hf
  replace hf := tg_i hf; obtain ⟨t1, hf⟩ := hf
  replace hf := bd2_i hf; obtain ⟨x3, h1, q2, hf⟩ := hf
  have F3 := FrC.trans F0 (pX4_takesOdd_fr F0.1 P_this P_p1 q2) (by decide)
  by_cases c4 : x3 = 0
  · rw [if_pos c4] at hf
    by_cases c5 : (pX4_isInfinite (hD h1 this 0)) = 0
    · rw [if_pos c5] at hf
      exact pX4_plus_b39_fr t1 P_this P_p1 F3 hf
    · rw [if_neg c5] at hf
      replace hf := tg_i hf; obtain ⟨t6, hf⟩ := hf
      by_cases c7 : (Op.cmpValue (FP.dcmp (hD h1 this 0) (fneg (hD h1 p1 0))) .l) = 0
      · rw [if_pos c7] at hf
        replace hf := bd_i hf; obtain ⟨h8, q8, hf⟩ := hf
        have F9 := FrC.trans F3 (pX4_setOdd_fr F3.1 P_this q8) (by decide)
        cases hf
        exact F9
      · rw [if_neg c7] at hf
        exact pX4_plus_b39_fr t1 P_this P_p1 F3 hf
  · rw [if_neg c4] at hf
    cases hf
    exact F3
set_option maxRecDepth 10000 in
set_option maxHeartbeats 2000000 in
theorem pX4_minus_b38_fr {P : Nat → Prop} {g : MT} {this : Nat} {p1 : Nat} {h : CT} {h0 : CT} {h9 : CT} (t0 : gT g this = 4) (P_this : P this) (P_p1 : P p1) (F0 : FrC P [(4, 1), (4, 4000)] g h0 h) (hf : pX4_minus_b38 g this p1 h = some h9) : FrC P [(4, 1), (4, 4000)] g h0 h9 := by
  unfold pX4_minus_b38 at hf
  replace hf := tg_i hf; obtain ⟨t1, hf⟩ := hf
  obtain ⟨h2, e2⟩ : ∃ z, z = (sD h this 0 (fsub (hD h this 0) (hD h p1 0))) := ⟨_, rfl⟩; replace hf := lt_i hf h2 e2
  have F3 := FrC.sD F0 P_this t0 (Or.inl (by decide)) e2
  cases hf
  exact F3
set_option maxRecDepth 10000 in
set_option maxHeartbeats 2000000 in
theorem pX4_minus_fr {P : Nat → Prop} {g : MT} {h : CT} {this : Nat} {p1 : Nat} {h9 : CT} (hc : Cl P h) (P_this : P this) (P_p1 : P p1) (hf : pX4_minus g h this p1 = some h9) : FrC P [(4, 1), (4, 4000)] g h h9 := by
  have F0 : FrC P [(4, 1), (4, 4000)] g h h := FrC.rf hc
  unfold pX4_minus at hf
  replace hf := tg_i hf; obtain ⟨t1, hf⟩ := hf
  replace hf := bd2_i hf; obtain ⟨x3, h1, q2, hf⟩ := hf
  have F3 := FrC.trans F0 (pX4_takesOdd_fr F0.1 P_this P_p1 q2) (by decide)
  by_cases c4 : x3 = 0
  · rw [if_pos c4] at hf
    by_cases c5 : (pX4_isInfinite (hD h1 this 0)) = 0
    · rw [if_pos c5] at hf
      exact pX4_minus_b38_fr t1 P_this P_p1 F3 hf
    · rw [if_neg c5] at hf
      replace hf := tg_i hf; obtain ⟨t6, hf⟩ := hf
      by_cases c7 : (Op.cmpValue (FP.dcmp (hD h1 this 0) (hD h1 p1 0)) .l) = 0
      · rw [if_pos c7] at hf
        replace hf := bd_i hf; obtain ⟨h8, q8, hf⟩ := hf
        have F9 := FrC.trans F3 (pX4_setOdd_fr F3.1 P_this q8) (by decide)
        cases hf
        exact F9
      · rw [if_neg c7] at hf
        exact pX4_minus_b38_fr t1 P_this P_p1 F3 hf
  · rw [if_neg c4] at hf
    cases hf
    exact F3
set_option maxRecDepth 10000 in
set_option maxHeartbeats 2000000 in
theorem pX4_times_b54_fr {P : Nat → Prop} {g : MT} {this : Nat} {p1 : Nat} {h : CT} {h0 : CT} {h9 : CT} (t0 : gT g this = 4) (P_this : P this) (P_p1 : P p1) (F0 : FrC P [(4, 1), (4, 4000)] g h0 h) (hf : pX4_times_b54 g this p1 h = some h9) : FrC P [(4, 1), (4, 4000)] g h0 h9 := by
  unfold pX4_times_b54 at hf
  replace hf := tg_i hf; obtain ⟨t1, hf⟩ := hf
  obtain ⟨h2, e2⟩ : ∃ z, z = (sD h this 0 (fmul (hD h this 0) (hD h p1 0))) := ⟨_, rfl⟩; replace hf := lt_i hf h2 e2
  have F3 := FrC.sD F0 P_this t0 (Or.inl (by decide)) e2
  cases hf
  exact F3
set_option maxRecDepth 10000 in
set_option maxHeartbeats 2000000 in
theorem pX4_times_b47_fr {P : Nat → Prop} {g : MT} {this : Nat} {p1 : Nat} {h : CT} {h0 : CT} {h9 : CT} (t0 : gT g this = 4) (P_this : P this) (P_p1 : P p1) (F0 : FrC P [(4, 1), (4, 4000)] g h0 h) (hf : pX4_times_b47 g this p1 h = some h9) : FrC P [(4, 1), (4, 4000)] g h0 h9 := by
  unfold pX4_times_b47 at hf
  replace hf := bd_i hf; obtain ⟨h1, q1, hf⟩ := hf
  have F2 := FrC.trans F0 (pX4_setOdd_fr F0.1 P_this q1) (by decide)
  cases hf
  exact F2
set_option maxRecDepth 10000 in
set_option maxHeartbeats 2000000 in
theorem pX4_times_b28_fr {P : Nat → Prop} {g : MT} {this : Nat} {p1 : Nat} {h : CT} {h0 : CT} {h9 : CT} (t0 : gT g this = 4) (P_this : P this) (P_p1 : P p1) (F0 : FrC P [(4, 1), (4, 4000)] g h0 h) (hf : pX4_times_b28 g this p1 h = some h9) : FrC P [(4, 1), (4, 4000)] g h0 h9 := by
  unfold pX4_times_b28 at hf
  by_cases c1 : (pX4_isInfinite (hD h this 0)) = 0
  · rw [if_pos c1] at hf
    exact pX4_times_b54_fr t0 P_this P_p1 F0 hf
  · rw [if_neg c1] at hf
    replace hf := tg_i hf; obtain ⟨t2, hf⟩ := hf
    by_cases c3 : (Op.cmpValue (FP.dcmp (hD h p1 0) 0) .l) = 0
    · rw [if_pos c3] at hf
      exact pX4_times_b47_fr t0 P_this P_p1 F0 hf
    · rw [if_neg c3] at hf
      exact pX4_times_b54_fr t0 P_this P_p1 F0 hf
set_option maxRecDepth 10000 in
set_option maxHeartbeats 2000000 in
theorem pX4_times_fr {P : Nat → Prop} {g : MT} {h : CT} {this : Nat} {p1 : Nat} {h9 : CT} (hc : Cl P h) (P_this : P this) (P_p1 : P p1) (hf : pX4_times g h this p1 = some h9) : FrC P [(4, 1), (4, 4000)] g h h9 := by
  have F0 : FrC P [(4, 1), (4, 4000)] g h h := FrC.rf hc
  unfold pX4_times at hf
  replace hf := tg_i hf; obtain ⟨t1, hf⟩ := hf
  replace hf := bd2_i hf; obtain ⟨x3, h1, q2, hf⟩ := hf
  have F3 := FrC.trans F0 (pX4_takesOdd_fr F0.1 P_this P_p1 q2) (by decide)
  by_cases c4 : x3 = 0
  · rw [if_pos c4] at hf
    by_cases c5 : (Op.cmpValue (FP.dcmp (hD h1 this 0) 0) .l) = 0
    · rw [if_pos c5] at hf
      replace hf := tg_i hf; obtain ⟨t6, hf⟩ := hf
      by_cases c7 : (pX4_isInfinite (hD h1 p1 0)) = 0
      · rw [if_pos c7] at hf
        exact pX4_times_b28_fr t1 P_this P_p1 F3 hf
      · rw [if_neg c7] at hf
        exact pX4_times_b47_fr t1 P_this P_p1 F3 hf
    · rw [if_neg c5] at hf
      exact pX4_times_b28_fr t1 P_this P_p1 F3 hf
  · rw [if_neg c4] at hf
    cases hf
    exact F3
set_option maxRecDepth 10000 in
set_option maxHeartbeats 2000000 in
theorem pX4_over_b54_fr {P : Nat → Prop} {g : MT} {this : Nat} {p1 : Nat} {h : CT} {h0 : CT} {h9 : CT} (t0 : gT g this = 4) (P_this : P this) (P_p1 : P p1) (F0 : FrC P [(4, 1), (4, 4000)] g h0 h) (hf : pX4_over_b54 g this p1 h = some h9) : FrC P [(4, 1), (4, 4000)] g h0 h9 := by
  unfold pX4_over_b54 at hf
  replace hf := tg_i hf; obtain ⟨t1, hf⟩ := hf
  obtain ⟨h2, e2⟩ : ∃ z, z = (sD h this 0 (fdiv (hD h this 0) (hD h p1 0))) := ⟨_, rfl⟩; replace hf := lt_i hf h2 e2
  have F3 := FrC.sD F0 P_this t0 (Or.inl (by decide)) e2
  cases hf
  exact F3
set_option maxRecDepth 10000 in
set_option maxHeartbeats 2000000 in
theorem pX4_over_b47_fr {P : Nat → Prop} {g : MT} {this : Nat} {p1 : Nat} {h : CT} {h0 : CT} {h9 : CT} (t0 : gT g this = 4) (P_this : P this) (P_p1 : P p1) (F0 : FrC P [(4, 1), (4, 4000)] g h0 h) (hf : pX4_over_b47 g this p1 h = some h9) : FrC P [(4, 1), (4, 4000)] g h0 h9 := by
  unfold pX4_over_b47 at hf
  replace hf := bd_i hf; obtain ⟨h1, q1, hf⟩ := hf
  have F2 := FrC.trans F0 (pX4_setOdd_fr F0.1 P_this q1) (by decide)
  cases hf
  exact F2
set_option maxRecDepth 10000 in
set_option maxHeartbeats 2000000 in
theorem pX4_over_b27_fr {P : Nat → Prop} {g : MT} {this : Nat} {p1 : Nat} {h : CT} {h0 : CT} {h9 : CT} (t0 : gT g this = 4) (P_this : P this) (P_p1 : P p1) (F0 : FrC P [(4, 1), (4, 4000)] g h0 h) (hf : pX4_over_b27 g this p1 h = some h9) : FrC P [(4, 1), (4, 4000)] g h0 h9 := by
  unfold pX4_over_b27 at hf
  by_cases c1 : (pX4_isInfinite (hD h this 0)) = 0
  · rw [if_pos c1] at hf
    exact pX4_over_b54_fr t0 P_this P_p1 F0 hf
  · rw [if_neg c1] at hf
    replace hf := tg_i hf; obtain ⟨t2, hf⟩ := hf
    by_cases c3 : (pX4_isInfinite (hD h p1 0)) = 0
    · rw [if_pos c3] at hf
      exact pX4_over_b54_fr t0 P_this P_p1 F0 hf
    · rw [if_neg c3] at hf
      exact pX4_over_b47_fr t0 P_this P_p1 F0 hf
set_option maxRecDepth 10000 in
set_option maxHeartbeats 2000000 in
theorem pX4_over_fr {P : Nat → Prop} {g : MT} {h : CT} {this : Nat} {p1 : Nat} {h9 : CT} (hc : Cl P h) (P_this : P this) (P_p1 : P p1) (hf : pX4_over g h this p1 = some h9) : FrC P [(4, 1), (4, 4000)] g h h9 := by
  have F0 : FrC P [(4, 1), (4, 4000)] g h h := FrC.rf hc
  unfold pX4_over at hf
  replace hf := tg_i hf; obtain ⟨t1, hf⟩ := hf
  replace hf := bd2_i hf; obtain ⟨x3, h1, q2, hf⟩ := hf
  have F3 := FrC.trans F0 (pX4_takesOdd_fr F0.1 P_this P_p1 q2) (by decide)
  by_cases c4 : x3 = 0
  · rw [if_pos c4] at hf
    by_cases c5 : (Op.cmpValue (FP.dcmp (hD h1 this 0) 0) .l) = 0
    · rw [if_pos c5] at hf
      replace hf := tg_i hf; obtain ⟨t6, hf⟩ := hf
      by_cases c7 : (Op.cmpValue (FP.dcmp (hD h1 p1 0) 0) .l) = 0
      · rw [if_pos c7] at hf
        exact pX4_over_b47_fr t1 P_this P_p1 F3 hf
      · rw [if_neg c7] at hf
        exact pX4_over_b27_fr t1 P_this P_p1 F3 hf
    · rw [if_neg c5] at hf
      exact pX4_over_b27_fr t1 P_this P_p1 F3 hf
  · rw [if_neg c4] at hf
    cases hf
    exact F3
set_option maxRecDepth 10000 in
set_option maxHeartbeats 2000000 in
theorem pX4_least_b40_fr {P : Nat → Prop} {g : MT} {this : Nat} {p1 : Nat} {h : CT} {h0 : CT} {h9 : CT} (t0 : gT g this = 4) (P_this : P this) (P_p1 : P p1) (F0 : FrC P [(4, 1), (4, 4000)] g h0 h) (hf : pX4_least_b40 g this p1 h = some h9) : FrC P [(4, 1), (4, 4000)] g h0 h9 := by
  unfold pX4_least_b40 at hf
  replace hf := tg_i hf; obtain ⟨t1, hf⟩ := hf
  obtain ⟨h2, e2⟩ : ∃ z, z = (sD h this 0 (hD h p1 0)) := ⟨_, rfl⟩; replace hf := lt_i hf h2 e2
  have F3 := FrC.sD F0 P_this t0 (Or.inl (by decide)) e2
  cases hf
  exact F3
set_option maxRecDepth 10000 in
set_option maxHeartbeats 2000000 in
theorem pX4_least_fr {P : Nat → Prop} {g : MT} {h : CT} {this : Nat} {p1 : Nat} {h9 : CT} (hc : Cl P h) (P_this : P this) (P_p1 : P p1) (hf : pX4_least g h this p1 = some h9) : FrC P [(4, 1), (4, 4000)] g h h9 := by
  have F0 : FrC P [(4, 1), (4, 4000)] g h h := FrC.rf hc
  unfold pX4_least at hf
  replace hf := tg_i hf; obtain ⟨t1, hf⟩ := hf
  replace hf := bd2_i hf; obtain ⟨x3, h1, q2, hf⟩ := hf
  have F3 := FrC.trans F0 (pX4_takesOdd_fr F0.1 P_this P_p1 q2) (by decide)
  by_cases c4 : x3 = 0
  · rw [if_pos c4] at hf
    replace hf := tg_i hf; obtain ⟨t5, hf⟩ := hf
    by_cases c6 : (Op.cmpValue (FP.dcmp (hD h1 p1 0) (hD h1 this 0)) .g) < 0
    · rw [if_pos c6] at hf
      exact pX4_least_b40_fr t1 P_this P_p1 F3 hf
    · rw [if_neg c6] at hf
      by_cases c7 : (pX4_isMinusZero (hD h1 p1 0)) = 0
      · rw [if_pos c7] at hf
        cases hf
        exact F3
      · rw [if_neg c7] at hf
        by_cases c8 : (Op.cmpValue (FP.dcmp (hD h1 this 0) 0) .l) = 0
        · rw [if_pos c8] at hf
          exact pX4_least_b40_fr t1 P_this P_p1 F3 hf
        · rw [if_neg c8] at hf
          cases hf
          exact F3
  · rw [if_neg c4] at hf
    cases hf
    exact F3
set_option maxRecDepth 10000 in
set_option maxHeartbeats 2000000 in
theorem pX4_most_b40_fr {P : Nat → Prop} {g : MT} {this : Nat} {p1 : Nat} {h : CT} {h0 : CT} {h9 : CT} (t0 : gT g this = 4) (P_this : P this) (P_p1 : P p1) (F0 : FrC P [(4, 1), (4, 4000)] g h0 h) (hf : pX4_most_b40 g this p1 h = some h9) : FrC P [(4, 1), (4, 4000)] g h0 h9 := by
  unfold pX4_most_b40 at hf
  replace hf := tg_i hf; obtain ⟨t1, hf⟩ := hf
  obtain ⟨h2, e2⟩ : ∃ z, z = (sD h this 0 (hD h p1 0)) := ⟨_, rfl⟩; replace hf := lt_i hf h2 e2
  have F3 := FrC.sD F0 P_this t0 (Or.inl (by decide)) e2
  cases hf
  exact F3
set_option maxRecDepth 10000 in
set_option maxHeartbeats 2000000 in
theorem pX4_most_fr {P : Nat → Prop} {g : MT} {h : CT} {this : Nat} {p1 : Nat} {h9 : CT} (hc : Cl P h) (P_this : P this) (P_p1 : P p1) (hf : pX4_most g h this p1 = some h9) : FrC P [(4, 1), (4, 4000)] g h h9 := by
  have F0 : FrC P [(4, 1), (4, 4000)] g h h := FrC.rf hc
  unfold pX4_most at hf
  replace hf := tg_i hf; obtain ⟨t1, hf⟩ := hf
  replace hf := bd2_i hf; obtain ⟨x3, h1, q2, hf⟩ := hf
  have F3 := FrC.trans F0 (pX4_takesOdd_fr F0.1 P_this P_p1 q2) (by decide)
  by_cases c4 : x3 = 0
  · rw [if_pos c4] at hf
    replace hf := tg_i hf; obtain ⟨t5, hf⟩ := hf
    by_cases c6 : 0 < (Op.cmpValue (FP.dcmp (hD h1 p1 0) (hD h1 this 0)) .l)
    · rw [if_pos c6] at hf
      exact pX4_most_b40_fr t1 P_this P_p1 F3 hf
    · rw [if_neg c6] at hf
      by_cases c7 : (pX4_isMinusZero (hD h1 this 0)) = 0
      · rw [if_pos c7] at hf
        cases hf
        exact F3
      · rw [if_neg c7] at hf
        by_cases c8 : (Op.cmpValue (FP.dcmp (hD h1 p1 0) 0) .l) = 0
        · rw [if_pos c8] at hf
          exact pX4_most_b40_fr t1 P_this P_p1 F3 hf
        · rw [if_neg c8] at hf
          cases hf
          exact F3
  · rw [if_neg c4] at hf
    cases hf
    exact F3
set_option maxRecDepth 10000 in
set_option maxHeartbeats 2000000 in
theorem pX4_toSingle_fr {P : Nat → Prop} {g : MT} {h : CT} {this : Nat} {h9 : CT} (hc : Cl P h) (P_this : P this) (hf : pX4_toSingle g h this = some h9) : FrC P [(4, 4000)] g h h9 := by
  have F0 : FrC P [(4, 4000)] g h h := FrC.rf hc
  unfold pX4_toSingle at hf
  replace hf := tg_i hf; obtain ⟨t1, hf⟩ := hf
  obtain ⟨h1, e2⟩ : ∃ z, z = (sD h this 0 (cnD (FP.f2d (cnF (FP.d2f (hD h this 0)))))) := ⟨_, rfl⟩; replace hf := lt_i hf h1 e2
  have F3 := FrC.sD F0 P_this t1 (Or.inl (by decide)) e2
  cases hf
  exact F3
set_option maxRecDepth 10000 in
set_option maxHeartbeats 2000000 in
theorem pX4_toWhole_fr {P : Nat → Prop} {g : MT} {h : CT} {this : Nat} {h9 : CT} (hc : Cl P h) (P_this : P this) (hf : pX4_toWhole g h this = some h9) : FrC P [(4, 1), (4, 4000)] g h h9 := by
  have F0 : FrC P [(4, 1), (4, 4000)] g h h := FrC.rf hc
  unfold pX4_toWhole at hf
  replace hf := tg_i hf; obtain ⟨t1, hf⟩ := hf
  replace hf := bd_i hf; obtain ⟨x1, q2, hf⟩ := hf
  replace hf := bd_i hf; obtain ⟨h3, q3, hf⟩ := hf
  have F4 := FrC.trans F0 (pX4_set_fr F0.1 P_this q3) (by decide)
  cases hf
  exact F4
set_option maxRecDepth 10000 in
set_option maxHeartbeats 2000000 in
theorem pX8_fetch_fr {P : Nat → Prop} {g : MT} {h : CT} {this : Nat} {p1 : Int32} {p2 : Nat} {h9 : CT} (hc : Cl P h) (P_this : P this) (P_p2 : P p2) (hf : pX8_fetch g h this p1 p2 = some h9) : FrC P [(4, 1), (4, 4000)] g h h9 := by
  have F0 : FrC P [(4, 1), (4, 4000)] g h h := FrC.rf hc
  unfold pX8_fetch at hf
  replace hf := tg_i hf; obtain ⟨t1, hf⟩ := hf
  by_cases c2 : p1 < 0
  · rw [if_pos c2] at hf
    cases hf
    exact F0
  · rw [if_neg c2] at hf
    obtain ⟨r2, e3⟩ : ∃ z, z = (hR h this 0) := ⟨_, rfl⟩; replace hf := lt_i hf r2 e3
    replace hf := nn_i hf; obtain ⟨a2, e4, hf⟩ := hf
    replace hf := tg_i hf; obtain ⟨t5, hf⟩ := hf
    by_cases c6 : (Int32.ofNat (gL g a2)) ≤ p1
    · rw [if_pos c6] at hf
      cases hf
      exact F0
    · rw [if_neg c6] at hf
      obtain ⟨r5, e7⟩ : ∃ z, z = (hR h this 1) := ⟨_, rfl⟩; replace hf := lt_i hf r5 e7
      replace hf := nn_i hf; obtain ⟨a5, e8, hf⟩ := hf
      replace hf := tg_i hf; obtain ⟨t9, hf⟩ := hf
      by_cases c10 : (Int32.ofNat (gL g a5)) ≤ p1
      · rw [if_pos c10] at hf
        cases hf
        exact F0
      · rw [if_neg c10] at hf
        obtain ⟨r8, e11⟩ : ∃ z, z = (hR h this 0) := ⟨_, rfl⟩; replace hf := lt_i hf r8 e11
        replace hf := nn_i hf; obtain ⟨a8, e12, hf⟩ := hf
        replace hf := tg_i hf; obtain ⟨t13, hf⟩ := hf
        replace hf := (ix_i hf).2
        replace hf := tg_i hf; obtain ⟨t14, hf⟩ := hf
        obtain ⟨h12, e15⟩ : ∃ z, z = (sD h p2 0 (hD h a8 (Int32.toNatClampNeg p1))) := ⟨_, rfl⟩; replace hf := lt_i hf h12 e15
        have F16 := FrC.sD F0 P_p2 t14 (Or.inl (by decide)) e15
        obtain ⟨r13, e17⟩ : ∃ z, z = (hR h12 this 1) := ⟨_, rfl⟩; replace hf := lt_i hf r13 e17
        replace hf := nn_i hf; obtain ⟨a13, e18, hf⟩ := hf
        replace hf := tg_i hf; obtain ⟨t19, hf⟩ := hf
        replace hf := (ix_i hf).2
        replace hf := (bz_i hf).2
        obtain ⟨h17, e20⟩ : ∃ z, z = (sI h12 p2 1 (hI h12 a13 (Int32.toNatClampNeg p1))) := ⟨_, rfl⟩; replace hf := lt_i hf h17 e20
        have F21 := FrC.sI F16 P_p2 t14 (Or.inl (by decide)) e20
        cases hf
        exact F21
set_option maxRecDepth 10000 in
set_option maxHeartbeats 2000000 in
theorem pX8_keep_fr {P : Nat → Prop} {g : MT} {h : CT} {this : Nat} {p1 : Int32} {p2 : Nat} {h9 : CT} (hc : Cl P h) (P_this : P this) (P_p2 : P p2) (hf : pX8_keep g h this p1 p2 = some h9) : FrC P [(22, 5000), (24, 1000)] g h h9 := by
  have F0 : FrC P [(22, 5000), (24, 1000)] g h h := FrC.rf hc
  unfold pX8_keep at hf
  replace hf := tg_i hf; obtain ⟨t1, hf⟩ := hf
  by_cases c2 : p1 < 0
  · rw [if_pos c2] at hf
    cases hf
    exact F0
  · rw [if_neg c2] at hf
    obtain ⟨r2, e3⟩ : ∃ z, z = (hR h this 0) := ⟨_, rfl⟩; replace hf := lt_i hf r2 e3
    replace hf := nn_i hf; obtain ⟨a2, e4, hf⟩ := hf
    replace hf := tg_i hf; obtain ⟨t5, hf⟩ := hf
    by_cases c6 : (Int32.ofNat (gL g a2)) ≤ p1
    · rw [if_pos c6] at hf
      cases hf
      exact F0
    · rw [if_neg c6] at hf
      obtain ⟨r5, e7⟩ : ∃ z, z = (hR h this 1) := ⟨_, rfl⟩; replace hf := lt_i hf r5 e7
      replace hf := nn_i hf; obtain ⟨a5, e8, hf⟩ := hf
      replace hf := tg_i hf; obtain ⟨t9, hf⟩ := hf
      by_cases c10 : (Int32.ofNat (gL g a5)) ≤ p1
      · rw [if_pos c10] at hf
        cases hf
        exact F0
      · rw [if_neg c10] at hf
        obtain ⟨r8, e11⟩ : ∃ z, z = (hR h this 0) := ⟨_, rfl⟩; replace hf := lt_i hf r8 e11
        replace hf := tg_i hf; obtain ⟨t12, hf⟩ := hf
        replace hf := nn_i hf; obtain ⟨a8, e13, hf⟩ := hf
        replace hf := tg_i hf; obtain ⟨t14, hf⟩ := hf
        replace hf := (ix_i hf).2
        obtain ⟨h12, e15⟩ : ∃ z, z = (sD h a8 (Int32.toNatClampNeg p1) (hD h p2 0)) := ⟨_, rfl⟩; replace hf := lt_i hf h12 e15
        have F16 := FrC.sD F0 ((fun b hb => F0.1 _ _ b P_this (e11.symm.trans hb)) _ e13) t14 (Or.inr (by decide)) e15
        obtain ⟨r13, e17⟩ : ∃ z, z = (hR h12 this 1) := ⟨_, rfl⟩; replace hf := lt_i hf r13 e17
        replace hf := nn_i hf; obtain ⟨a13, e18, hf⟩ := hf
        replace hf := tg_i hf; obtain ⟨t19, hf⟩ := hf
        replace hf := (ix_i hf).2
        obtain ⟨h16, e20⟩ : ∃ z, z = (sI h12 a13 (Int32.toNatClampNeg p1) (vp_nar .boolean (hI h12 p2 1))) := ⟨_, rfl⟩; replace hf := lt_i hf h16 e20
        have F21 := FrC.sI F16 ((fun b hb => F16.1 _ _ b P_this (e17.symm.trans hb)) _ e18) t19 (Or.inr (by decide)) e20
        cases hf
        exact F21
set_option maxRecDepth 10000 in
set_option maxHeartbeats 2000000 in
theorem pX8_clear_b2_fr {P : Nat → Prop} {g : MT} {this : Nat} {k2 : Int32 → CT → Option CT} {l1 : Int32} {h : CT} {h0 : CT} {h9 : CT} (t0 : gT g this = 7) (P_this : P this) (hk2 : ∀ (v0 : Int32) (v1 : CT), FrC P [(22, 5000), (24, 1000)] g h0 v1 → k2 v0 v1 = some h9 → FrC P [(22, 5000), (24, 1000)] g h0 h9) (F0 : FrC P [(22, 5000), (24, 1000)] g h0 h) (hf : pX8_clear_b2 g this k2 l1 h = some h9) : FrC P [(22, 5000), (24, 1000)] g h0 h9 := by
  unfold pX8_clear_b2 at hf
  obtain ⟨r1, e1⟩ : ∃ z, z = (hR h this 0) := ⟨_, rfl⟩; replace hf := lt_i hf r1 e1
  replace hf := nn_i hf; obtain ⟨a1, e2, hf⟩ := hf
  replace hf := tg_i hf; obtain ⟨t3, hf⟩ := hf
  by_cases c4 : (Int32.ofNat (gL g a1)) ≤ l1
  · rw [if_pos c4] at hf
    cases hf
    exact F0
  · rw [if_neg c4] at hf
    obtain ⟨r4, e5⟩ : ∃ z, z = (hR h this 1) := ⟨_, rfl⟩; replace hf := lt_i hf r4 e5
    replace hf := nn_i hf; obtain ⟨a4, e6, hf⟩ := hf
    replace hf := tg_i hf; obtain ⟨t7, hf⟩ := hf
    by_cases c8 : (Int32.ofNat (gL g a4)) ≤ l1
    · rw [if_pos c8] at hf
      cases hf
      exact F0
    · rw [if_neg c8] at hf
      obtain ⟨r7, e9⟩ : ∃ z, z = (hR h this 0) := ⟨_, rfl⟩; replace hf := lt_i hf r7 e9
      replace hf := nn_i hf; obtain ⟨a7, e10, hf⟩ := hf
      replace hf := tg_i hf; obtain ⟨t11, hf⟩ := hf
      replace hf := (ix_i hf).2
      obtain ⟨h10, e12⟩ : ∃ z, z = (sD h a7 (Int32.toNatClampNeg l1) 0) := ⟨_, rfl⟩; replace hf := lt_i hf h10 e12
      have F13 := FrC.sD F0 ((fun b hb => F0.1 _ _ b P_this (e9.symm.trans hb)) _ e10) t11 (Or.inr (by decide)) e12
      obtain ⟨r11, e14⟩ : ∃ z, z = (hR h10 this 1) := ⟨_, rfl⟩; replace hf := lt_i hf r11 e14
      replace hf := nn_i hf; obtain ⟨a11, e15, hf⟩ := hf
      replace hf := tg_i hf; obtain ⟨t16, hf⟩ := hf
      replace hf := (ix_i hf).2
      obtain ⟨h14, e17⟩ : ∃ z, z = (sI h10 a11 (Int32.toNatClampNeg l1) (vp_nar .boolean 0)) := ⟨_, rfl⟩; replace hf := lt_i hf h14 e17
      have F18 := FrC.sI F13 ((fun b hb => F13.1 _ _ b P_this (e14.symm.trans hb)) _ e15) t16 (Or.inr (by decide)) e17
      obtain ⟨x15, e19⟩ : ∃ z, z = (l1 + 1) := ⟨_, rfl⟩; replace hf := lt_i hf x15 e19
      exact hk2 _ _ F18 hf
set_option maxRecDepth 10000 in
set_option maxHeartbeats 2000000 in
theorem pX8_clear_l2_fr {P : Nat → Prop} {g : MT} {this : Nat} {h0 : CT} {h9 : CT} (t0 : gT g this = 7) (P_this : P this) : ∀ (n : Nat) (v1 : Int32) (v2 : CT), FrC P [(22, 5000), (24, 1000)] g h0 v2 → pX8_clear_l2 g this n v1 v2 = some h9 → FrC P [(22, 5000), (24, 1000)] g h0 h9 := by
  intro n
  induction n with
  | zero => intro v1 v2 F0 hf; cases hf
  | succ n ih => intro v1 v2 F0 hf; exact pX8_clear_b2_fr t0 P_this ih F0 hf
set_option maxRecDepth 10000 in
set_option maxHeartbeats 2000000 in
theorem pX8_clear_fr {P : Nat → Prop} {g : MT} {h : CT} {this : Nat} {h9 : CT} (hc : Cl P h) (P_this : P this) (hf : pX8_clear g h this = some h9) : FrC P [(22, 5000), (24, 1000)] g h h9 := by
  have F0 : FrC P [(22, 5000), (24, 1000)] g h h := FrC.rf hc
  unfold pX8_clear at hf
  replace hf := tg_i hf; obtain ⟨t1, hf⟩ := hf
  exact pX8_clear_l2_fr t1 P_this _ _ _ F0 hf
set_option maxRecDepth 10000 in
set_option maxHeartbeats 2000000 in
theorem pX8_copyFrom_b28_fr {P : Nat → Prop} {g : MT} {this : Nat} {p1 : Nat} {k28 : Int32 → CT → Option CT} {l2 : Int32} {h : CT} {h0 : CT} {h9 : CT} (t0 : gT g this = 7) (P_this : P this) (P_p1 : P p1) (hk28 : ∀ (v0 : Int32) (v1 : CT), FrC P [(22, 5000), (24, 1000)] g h0 v1 → k28 v0 v1 = some h9 → FrC P [(22, 5000), (24, 1000)] g h0 h9) (F0 : FrC P [(22, 5000), (24, 1000)] g h0 h) (hf : pX8_copyFrom_b28 g this p1 k28 l2 h = some h9) : FrC P [(22, 5000), (24, 1000)] g h0 h9 := by
  unfold pX8_copyFrom_b28 at hf
  obtain ⟨r1, e1⟩ : ∃ z, z = (hR h this 1) := ⟨_, rfl⟩; replace hf := lt_i hf r1 e1
  replace hf := nn_i hf; obtain ⟨a1, e2, hf⟩ := hf
  replace hf := tg_i hf; obtain ⟨t3, hf⟩ := hf
  by_cases c4 : (Int32.ofNat (gL g a1)) ≤ l2
  · rw [if_pos c4] at hf
    cases hf
    exact F0
  · rw [if_neg c4] at hf
    replace hf := tg_i hf; obtain ⟨t5, hf⟩ := hf
    obtain ⟨r5, e6⟩ : ∃ z, z = (hR h p1 1) := ⟨_, rfl⟩; replace hf := lt_i hf r5 e6
    replace hf := nn_i hf; obtain ⟨a5, e7, hf⟩ := hf
    replace hf := tg_i hf; obtain ⟨t8, hf⟩ := hf
    by_cases c9 : (Int32.ofNat (gL g a5)) ≤ l2
    · rw [if_pos c9] at hf
      cases hf
      exact F0
    · rw [if_neg c9] at hf
      obtain ⟨r8, e10⟩ : ∃ z, z = (hR h this 1) := ⟨_, rfl⟩; replace hf := lt_i hf r8 e10
      obtain ⟨r9, e11⟩ : ∃ z, z = (hR h p1 1) := ⟨_, rfl⟩; replace hf := lt_i hf r9 e11
      replace hf := nn_i hf; obtain ⟨a9, e12, hf⟩ := hf
      replace hf := tg_i hf; obtain ⟨t13, hf⟩ := hf
      replace hf := (ix_i hf).2
      replace hf := nn_i hf; obtain ⟨a8, e14, hf⟩ := hf
      replace hf := tg_i hf; obtain ⟨t15, hf⟩ := hf
      replace hf := (ix_i hf).2
      obtain ⟨h14, e16⟩ : ∃ z, z = (sI h a8 (Int32.toNatClampNeg l2) (vp_nar .boolean (hI h a9 (Int32.toNatClampNeg l2)))) := ⟨_, rfl⟩; replace hf := lt_i hf h14 e16
      have F17 := FrC.sI F0 ((fun b hb => F0.1 _ _ b P_this (e10.symm.trans hb)) _ e14) t15 (Or.inr (by decide)) e16
      obtain ⟨x15, e18⟩ : ∃ z, z = (l2 + 1) := ⟨_, rfl⟩; replace hf := lt_i hf x15 e18
      exact hk28 _ _ F17 hf
set_option maxRecDepth 10000 in
set_option maxHeartbeats 2000000 in
theorem pX8_copyFrom_l28_fr {P : Nat → Prop} {g : MT} {this : Nat} {p1 : Nat} {h0 : CT} {h9 : CT} (t0 : gT g this = 7) (P_this : P this) (P_p1 : P p1) : ∀ (n : Nat) (v1 : Int32) (v2 : CT), FrC P [(22, 5000), (24, 1000)] g h0 v2 → pX8_copyFrom_l28 g this p1 n v1 v2 = some h9 → FrC P [(22, 5000), (24, 1000)] g h0 h9 := by
  intro n
  induction n with
  | zero => intro v1 v2 F0 hf; cases hf
  | succ n ih => intro v1 v2 F0 hf; exact pX8_copyFrom_b28_fr t0 P_this P_p1 ih F0 hf
set_option maxRecDepth 10000 in
set_option maxHeartbeats 2000000 in
theorem pX8_copyFrom_fr {P : Nat → Prop} {g : MT} {h : CT} {this : Nat} {p1 : Nat} {h9 : CT} (hc : Cl P h) (P_this : P this) (P_p1 : P p1) (hf : pX8_copyFrom g h this p1 = some h9) : FrC P [(22, 5000), (24, 1000)] g h h9 := by
  have F0 : FrC P [(22, 5000), (24, 1000)] g h h := FrC.rf hc
  unfold pX8_copyFrom at hf
  replace hf := tg_i hf; obtain ⟨t1, hf⟩ := hf
  replace hf := tg_i hf; obtain ⟨t2, hf⟩ := hf
  obtain ⟨r2, e3⟩ : ∃ z, z = (hR h p1 0) := ⟨_, rfl⟩; replace hf := lt_i hf r2 e3
  obtain ⟨r3, e4⟩ : ∃ z, z = (hR h this 0) := ⟨_, rfl⟩; replace hf := lt_i hf r3 e4
  obtain ⟨r4, e5⟩ : ∃ z, z = (hR h this 0) := ⟨_, rfl⟩; replace hf := lt_i hf r4 e5
  replace hf := nn_i hf; obtain ⟨a4, e6, hf⟩ := hf
  replace hf := tg_i hf; obtain ⟨t7, hf⟩ := hf
  obtain ⟨r6, e8⟩ : ∃ z, z = (hR h p1 0) := ⟨_, rfl⟩; replace hf := lt_i hf r6 e8
  replace hf := nn_i hf; obtain ⟨a6, e9, hf⟩ := hf
  replace hf := tg_i hf; obtain ⟨t10, hf⟩ := hf
  replace hf := nn_i hf; obtain ⟨a2, e11, hf⟩ := hf
  replace hf := nn_i hf; obtain ⟨a3, e12, hf⟩ := hf
  replace hf := tg_i hf; obtain ⟨t13, hf⟩ := hf
  replace hf := tg_i hf; obtain ⟨t14, hf⟩ := hf
  replace hf := (cpk_i hf).2
  obtain ⟨h11, e15⟩ : ∃ z, z = (cpD h a2 a3 (Int32.toNatClampNeg 0) (Int32.toNatClampNeg 0) (Int32.toNatClampNeg (pJ9_min_7cf53 (Int32.ofNat (gL g a4)) (Int32.ofNat (gL g a6))))) := ⟨_, rfl⟩; replace hf := lt_i hf h11 e15
  have F16 := FrC.cpD F0 ((fun b hb => F0.1 _ _ b P_this (e4.symm.trans hb)) _ e12) t14 (by decide) e15
  exact pX8_copyFrom_l28_fr t1 P_this P_p1 _ _ _ F16 hf
set_option maxRecDepth 10000 in
set_option maxHeartbeats 2000000 in
theorem pX11_begin_fr {P : Nat → Prop} {g : MT} {h : CT} {this : Nat} {p1 : Int32} {p2 : Int32} {h9 : CT} (hc : Cl P h) (P_this : P this) (hf : pX11_begin g h this p1 p2 = some h9) : FrC P [(10, 0), (10, 1), (10, 2), (21, 3000)] g h h9 := by
  have F0 : FrC P [(10, 0), (10, 1), (10, 2), (21, 3000)] g h h := FrC.rf hc
  unfold pX11_begin at hf
  replace hf := tg_i hf; obtain ⟨t1, hf⟩ := hf
  obtain ⟨h1, e2⟩ : ∃ z, z = (sI h this 0 1) := ⟨_, rfl⟩; replace hf := lt_i hf h1 e2
  have F3 := FrC.sI F0 P_this t1 (Or.inl (by decide)) e2
  obtain ⟨h2, e4⟩ : ∃ z, z = (sI h1 this 1 p1) := ⟨_, rfl⟩; replace hf := lt_i hf h2 e4
  have F5 := FrC.sI F3 P_this t1 (Or.inl (by decide)) e4
  obtain ⟨h3, e6⟩ : ∃ z, z = (sI h2 this 2 p2) := ⟨_, rfl⟩; replace hf := lt_i hf h3 e6
  have F7 := FrC.sI F5 P_this t1 (Or.inl (by decide)) e6
  obtain ⟨r4, e8⟩ : ∃ z, z = (hR h3 this 3) := ⟨_, rfl⟩; replace hf := lt_i hf r4 e8
  replace hf := nn_i hf; obtain ⟨a4, e9, hf⟩ := hf
  replace hf := bd_i hf; obtain ⟨h5, q10, hf⟩ := hf
  have F11 := FrC.trans F7 (pJ7_fill_d0a16_fr F7.1 ((fun b hb => F7.1 _ _ b P_this (e8.symm.trans hb)) _ e9) q10) (by decide)
  cases hf
  exact F11
set_option maxRecDepth 10000 in
set_option maxHeartbeats 2000000 in
theorem pX1_split_b156_fr {P : Nat → Prop} {g : MT} {this : Nat} {p1 : UInt64} {s0 : Nat} {s1 : Int64} {h : CT} {h0 : CT} {h9 : CT} (t0 : gT g this = 1) (P_this : P this) (P_s0 : P s0) (F0 : FrC P [(1, 4), (1, 2003)] g h0 h) (hf : pX1_split_b156 g this p1 s0 s1 h = some h9) : FrC P [(1, 4), (1, 2003)] g h0 h9 := by
  unfold pX1_split_b156 at hf
  replace hf := tg_i hf; obtain ⟨t1, hf⟩ := hf
  obtain ⟨h2, e2⟩ : ∃ z, z = (sL h s0 3 s1) := ⟨_, rfl⟩; replace hf := lt_i hf h2 e2
  have F3 := FrC.sL F0 P_s0 t1 (Or.inl (by decide)) e2
  cases hf
  exact F3
set_option maxRecDepth 10000 in
set_option maxHeartbeats 2000000 in
theorem pX1_split_b135_fr {P : Nat → Prop} {g : MT} {this : Nat} {p1 : UInt64} {k91 : UInt64 → Int32 → CT → Option CT} {l3 : UInt64} {l5 : Int32} {h : CT} {h0 : CT} {h9 : CT} (t0 : gT g this = 1) (P_this : P this) (hk91 : ∀ (v0 : UInt64) (v1 : Int32) (v2 : CT), FrC P [(1, 4), (1, 2003)] g h0 v2 → k91 v0 v1 v2 = some h9 → FrC P [(1, 4), (1, 2003)] g h0 h9) (F0 : FrC P [(1, 4), (1, 2003)] g h0 h) (hf : pX1_split_b135 g this p1 k91 l3 l5 h = some h9) : FrC P [(1, 4), (1, 2003)] g h0 h9 := by
  unfold pX1_split_b135 at hf
  obtain ⟨x1, e1⟩ : ∃ z, z = (l5 + (-1)) := ⟨_, rfl⟩; replace hf := lt_i hf x1 e1
  exact hk91 _ _ _ F0 hf
set_option maxRecDepth 10000 in
set_option maxHeartbeats 2000000 in
theorem pX1_split_b91_fr {P : Nat → Prop} {g : MT} {this : Nat} {p1 : UInt64} {k91 : UInt64 → Int32 → CT → Option CT} {l3 : UInt64} {l5 : Int32} {h : CT} {h0 : CT} {h9 : CT} (t0 : gT g this = 1) (P_this : P this) (hk91 : ∀ (v0 : UInt64) (v1 : Int32) (v2 : CT), FrC P [(1, 4), (1, 2003)] g h0 v2 → k91 v0 v1 v2 = some h9 → FrC P [(1, 4), (1, 2003)] g h0 h9) (F0 : FrC P [(1, 4), (1, 2003)] g h0 h) (hf : pX1_split_b91 g this p1 k91 l3 l5 h = some h9) : FrC P [(1, 4), (1, 2003)] g h0 h9 := by
  unfold pX1_split_b91 at hf
  by_cases c1 : l5 < 0
  · rw [if_pos c1] at hf
    by_cases c2 : 0 ≤ (Op.cmpValue (FP.dcmp p1 0) .g)
    · rw [if_pos c2] at hf
      exact pX1_split_b156_fr t0 P_this P_this F0 hf
    · rw [if_neg c2] at hf
      exact pX1_split_b156_fr t0 P_this P_this F0 hf
  · rw [if_neg c1] at hf
    obtain ⟨r3, e3⟩ : ∃ z, z = (hR h this 2) := ⟨_, rfl⟩; replace hf := lt_i hf r3 e3
    replace hf := nn_i hf; obtain ⟨a3, e4, hf⟩ := hf
    replace hf := tg_i hf; obtain ⟨t5, hf⟩ := hf
    replace hf := (ix_i hf).2
    by_cases c6 : (Op.cmpValue (FP.dcmp (fdiv l3 (hD h a3 (Int32.toNatClampNeg l5))) 4841369599423283200) .l) < 0
    · rw [if_pos c6] at hf
      exact pX1_split_b135_fr t0 P_this hk91 F0 hf
    · rw [if_neg c6] at hf
      obtain ⟨r7, e7⟩ : ∃ z, z = (hR h this 2) := ⟨_, rfl⟩; replace hf := lt_i hf r7 e7
      replace hf := nn_i hf; obtain ⟨a7, e8, hf⟩ := hf
      replace hf := tg_i hf; obtain ⟨t9, hf⟩ := hf
      replace hf := (ix_i hf).2
      obtain ⟨x10, e10⟩ : ∃ z, z = (fdiv l3 (hD h a7 (Int32.toNatClampNeg l5))) := ⟨_, rfl⟩; replace hf := lt_i hf x10 e10
      obtain ⟨h11, e11⟩ : ∃ z, z = (sI h this 4 ((hI h this 4) + ((1 : Int32) <<< (l5 &&& 31)))) := ⟨_, rfl⟩; replace hf := lt_i hf h11 e11
      have F12 := FrC.sI F0 P_this t0 (Or.inl (by decide)) e11
      exact pX1_split_b135_fr t0 P_this hk91 F12 hf
set_option maxRecDepth 10000 in
set_option maxHeartbeats 2000000 in
theorem pX1_split_l91_fr {P : Nat → Prop} {g : MT} {this : Nat} {p1 : UInt64} {h0 : CT} {h9 : CT} (t0 : gT g this = 1) (P_this : P this) : ∀ (n : Nat) (v1 : UInt64) (v2 : Int32) (v3 : CT), FrC P [(1, 4), (1, 2003)] g h0 v3 → pX1_split_l91 g this p1 n v1 v2 v3 = some h9 → FrC P [(1, 4), (1, 2003)] g h0 h9 := by
  intro n
  induction n with
  | zero => intro v1 v2 v3 F0 hf; cases hf
  | succ n ih => intro v1 v2 v3 F0 hf; exact pX1_split_b91_fr t0 P_this ih F0 hf
set_option maxRecDepth 10000 in
set_option maxHeartbeats 2000000 in
theorem pX1_split_b81_fr {P : Nat → Prop} {g : MT} {this : Nat} {p1 : UInt64} {k22 : UInt64 → Int32 → CT → Option CT} {l3 : UInt64} {l5 : Int32} {h : CT} {h0 : CT} {h9 : CT} (t0 : gT g this = 1) (P_this : P this) (hk22 : ∀ (v0 : UInt64) (v1 : Int32) (v2 : CT), FrC P [(1, 4), (1, 2003)] g h0 v2 → k22 v0 v1 v2 = some h9 → FrC P [(1, 4), (1, 2003)] g h0 h9) (F0 : FrC P [(1, 4), (1, 2003)] g h0 h) (hf : pX1_split_b81 g this p1 k22 l3 l5 h = some h9) : FrC P [(1, 4), (1, 2003)] g h0 h9 := by
  unfold pX1_split_b81 at hf
  obtain ⟨x1, e1⟩ : ∃ z, z = (l5 + (-1)) := ⟨_, rfl⟩; replace hf := lt_i hf x1 e1
  exact hk22 _ _ _ F0 hf
set_option maxRecDepth 10000 in
set_option maxHeartbeats 2000000 in
theorem pX1_split_b30_fr {P : Nat → Prop} {g : MT} {this : Nat} {p1 : UInt64} {k22 : UInt64 → Int32 → CT → Option CT} {k30 : UInt64 → Int32 → Int32 → CT → Option CT} {l3 : UInt64} {l5 : Int32} {l6 : Int32} {h : CT} {h0 : CT} {h9 : CT} (t0 : gT g this = 1) (P_this : P this) (hk22 : ∀ (v0 : UInt64) (v1 : Int32) (v2 : CT), FrC P [(1, 4), (1, 2003)] g h0 v2 → k22 v0 v1 v2 = some h9 → FrC P [(1, 4), (1, 2003)] g h0 h9) (hk30 : ∀ (v0 : UInt64) (v1 : Int32) (v2 : Int32) (v3 : CT), FrC P [(1, 4), (1, 2003)] g h0 v3 → k30 v0 v1 v2 v3 = some h9 → FrC P [(1, 4), (1, 2003)] g h0 h9) (F0 : FrC P [(1, 4), (1, 2003)] g h0 h) (hf : pX1_split_b30 g this p1 k22 k30 l3 l5 l6 h = some h9) : FrC P [(1, 4), (1, 2003)] g h0 h9 := by
  unfold pX1_split_b30 at hf
  by_cases c1 : 2 ≤ l6
  · rw [if_pos c1] at hf
    exact pX1_split_b81_fr t0 P_this hk22 F0 hf
  · rw [if_neg c1] at hf
    obtain ⟨r2, e2⟩ : ∃ z, z = (hR h this 2) := ⟨_, rfl⟩; replace hf := lt_i hf r2 e2
    replace hf := nn_i hf; obtain ⟨a2, e3, hf⟩ := hf
    replace hf := tg_i hf; obtain ⟨t4, hf⟩ := hf
    replace hf := (ix_i hf).2
    by_cases c5 : 0 ≤ (Op.cmpValue (FP.dcmp l3 (fdiv 4845873199050653696 (hD h a2 (Int32.toNatClampNeg l5)))) .g)
    · rw [if_pos c5] at hf
      exact pX1_split_b81_fr t0 P_this hk22 F0 hf
    · rw [if_neg c5] at hf
      obtain ⟨r6, e6⟩ : ∃ z, z = (hR h this 2) := ⟨_, rfl⟩; replace hf := lt_i hf r6 e6
      replace hf := nn_i hf; obtain ⟨a6, e7, hf⟩ := hf
      replace hf := tg_i hf; obtain ⟨t8, hf⟩ := hf
      replace hf := (ix_i hf).2
      obtain ⟨x9, e9⟩ : ∃ z, z = (fmul l3 (hD h a6 (Int32.toNatClampNeg l5))) := ⟨_, rfl⟩; replace hf := lt_i hf x9 e9
      obtain ⟨h10, e10⟩ : ∃ z, z = (sI h this 4 ((hI h this 4) - ((1 : Int32) <<< (l5 &&& 31)))) := ⟨_, rfl⟩; replace hf := lt_i hf h10 e10
      have F11 := FrC.sI F0 P_this t0 (Or.inl (by decide)) e10
      obtain ⟨x11, e12⟩ : ∃ z, z = (l6 + 1) := ⟨_, rfl⟩; replace hf := lt_i hf x11 e12
      exact hk30 _ _ _ _ F11 hf
set_option maxRecDepth 10000 in
set_option maxHeartbeats 2000000 in
theorem pX1_split_l30_fr {P : Nat → Prop} {g : MT} {this : Nat} {p1 : UInt64} {k22 : UInt64 → Int32 → CT → Option CT} {h0 : CT} {h9 : CT} (t0 : gT g this = 1) (P_this : P this) (hk22 : ∀ (v0 : UInt64) (v1 : Int32) (v2 : CT), FrC P [(1, 4), (1, 2003)] g h0 v2 → k22 v0 v1 v2 = some h9 → FrC P [(1, 4), (1, 2003)] g h0 h9) : ∀ (n : Nat) (v1 : UInt64) (v2 : Int32) (v3 : Int32) (v4 : CT), FrC P [(1, 4), (1, 2003)] g h0 v4 → pX1_split_l30 g this p1 k22 n v1 v2 v3 v4 = some h9 → FrC P [(1, 4), (1, 2003)] g h0 h9 := by
  intro n
  induction n with
  | zero => intro v1 v2 v3 v4 F0 hf; cases hf
  | succ n ih => intro v1 v2 v3 v4 F0 hf; exact pX1_split_b30_fr t0 P_this hk22 ih F0 hf
set_option maxRecDepth 10000 in
set_option maxHeartbeats 2000000 in
theorem pX1_split_b22_fr {P : Nat → Prop} {g : MT} {this : Nat} {p1 : UInt64} {k22 : UInt64 → Int32 → CT → Option CT} {l3 : UInt64} {l5 : Int32} {h : CT} {h0 : CT} {h9 : CT} (t0 : gT g this = 1) (P_this : P this) (hk22 : ∀ (v0 : UInt64) (v1 : Int32) (v2 : CT), FrC P [(1, 4), (1, 2003)] g h0 v2 → k22 v0 v1 v2 = some h9 → FrC P [(1, 4), (1, 2003)] g h0 h9) (F0 : FrC P [(1, 4), (1, 2003)] g h0 h) (hf : pX1_split_b22 g this p1 k22 l3 l5 h = some h9) : FrC P [(1, 4), (1, 2003)] g h0 h9 := by
  unfold pX1_split_b22 at hf
  by_cases c1 : l5 < 0
  · rw [if_pos c1] at hf
    exact pX1_split_l91_fr t0 P_this _ _ _ _ F0 hf
  · rw [if_neg c1] at hf
    exact pX1_split_l30_fr t0 P_this hk22 _ _ _ _ _ F0 hf
set_option maxRecDepth 10000 in
set_option maxHeartbeats 2000000 in
theorem pX1_split_l22_fr {P : Nat → Prop} {g : MT} {this : Nat} {p1 : UInt64} {h0 : CT} {h9 : CT} (t0 : gT g this = 1) (P_this : P this) : ∀ (n : Nat) (v1 : UInt64) (v2 : Int32) (v3 : CT), FrC P [(1, 4), (1, 2003)] g h0 v3 → pX1_split_l22 g this p1 n v1 v2 v3 = some h9 → FrC P [(1, 4), (1, 2003)] g h0 h9 := by
  intro n
  induction n with
  | zero => intro v1 v2 v3 F0 hf; cases hf
  | succ n ih => intro v1 v2 v3 F0 hf; exact pX1_split_b22_fr t0 P_this ih F0 hf
set_option maxRecDepth 10000 in
set_option maxHeartbeats 2000000 in
theorem pX1_split_b12_fr {P : Nat → Prop} {g : MT} {this : Nat} {p1 : UInt64} {s0 : UInt64} {h : CT} {h0 : CT} {h9 : CT} (t0 : gT g this = 1) (P_this : P this) (F0 : FrC P [(1, 4), (1, 2003)] g h0 h) (hf : pX1_split_b12 g this p1 s0 h = some h9) : FrC P [(1, 4), (1, 2003)] g h0 h9 := by
  unfold pX1_split_b12 at hf
  obtain ⟨h1, e1⟩ : ∃ z, z = (sI h this 4 0) := ⟨_, rfl⟩; replace hf := lt_i hf h1 e1
  have F2 := FrC.sI F0 P_this t0 (Or.inl (by decide)) e1
  exact pX1_split_l22_fr t0 P_this _ _ _ _ F2 hf
set_option maxRecDepth 10000 in
set_option maxHeartbeats 2000000 in
theorem pX1_split_fr {P : Nat → Prop} {g : MT} {h : CT} {this : Nat} {p1 : UInt64} {h9 : CT} (hc : Cl P h) (P_this : P this) (hf : pX1_split g h this p1 = some h9) : FrC P [(1, 4), (1, 2003)] g h h9 := by
  have F0 : FrC P [(1, 4), (1, 2003)] g h h := FrC.rf hc
  unfold pX1_split at hf
  replace hf := tg_i hf; obtain ⟨t1, hf⟩ := hf
  by_cases c2 : 0 ≤ (Op.cmpValue (FP.dcmp p1 0) .g)
  · rw [if_pos c2] at hf
    exact pX1_split_b12_fr t1 P_this F0 hf
  · rw [if_neg c2] at hf
    exact pX1_split_b12_fr t1 P_this F0 hf
set_option maxRecDepth 10000 in
set_option maxHeartbeats 2000000 in
theorem pX1_remainder_b33_fr {P : Nat → Prop} {g : MT} {this : Nat} {p1 : Nat} {p2 : Nat} {h : CT} {h0 : CT} {h9 : CT} (t0 : gT g this = 1) (P_this : P this) (P_p1 : P p1) (P_p2 : P p2) (F0 : FrC P [(1, 4), (1, 2003), (4, 1), (4, 4000)] g h0 h) (hf : pX1_remainder_b33 g this p1 p2 h = some h9) : FrC P [(1, 4), (1, 2003), (4, 1), (4, 4000)] g h0 h9 := by
  unfold pX1_remainder_b33 at hf
  replace hf := tg_i hf; obtain ⟨t1, hf⟩ := hf
  replace hf := bd_i hf; obtain ⟨h2, q2, hf⟩ := hf
  have F3 := FrC.trans F0 (pX4_setOdd_fr F0.1 P_p1 q2) (by decide)
  cases hf
  exact F3
set_option maxRecDepth 10000 in
set_option maxHeartbeats 2000000 in
theorem pX1_remainder_b200_fr {P : Nat → Prop} {g : MT} {this : Nat} {p1 : Nat} {p2 : Nat} {s0 : Nat} {s1 : UInt64} {h : CT} {h0 : CT} {h9 : CT} (t0 : gT g this = 1) (P_this : P this) (P_p1 : P p1) (P_p2 : P p2) (P_s0 : P s0) (F0 : FrC P [(1, 4), (1, 2003), (4, 1), (4, 4000)] g h0 h) (hf : pX1_remainder_b200 g this p1 p2 s0 s1 h = some h9) : FrC P [(1, 4), (1, 2003), (4, 1), (4, 4000)] g h0 h9 := by
  unfold pX1_remainder_b200 at hf
  replace hf := tg_i hf; obtain ⟨t1, hf⟩ := hf
  obtain ⟨h2, e2⟩ : ∃ z, z = (sD h s0 0 s1) := ⟨_, rfl⟩; replace hf := lt_i hf h2 e2
  have F3 := FrC.sD F0 P_s0 t1 (Or.inl (by decide)) e2
  cases hf
  exact F3
set_option maxRecDepth 10000 in
set_option maxHeartbeats 2000000 in
theorem pX1_remainder_b146_fr {P : Nat → Prop} {g : MT} {this : Nat} {p1 : Nat} {p2 : Nat} {k146 : Int64 → Int32 → Int64 → Int32 → CT → Option CT} {l7 : Int64} {l9 : Int32} {l10 : Int64} {l12 : Int32} {h : CT} {h0 : CT} {h9 : CT} (t0 : gT g this = 1) (P_this : P this) (P_p1 : P p1) (P_p2 : P p2) (hk146 : ∀ (v0 : Int64) (v1 : Int32) (v2 : Int64) (v3 : Int32) (v4 : CT), FrC P [(1, 4), (1, 2003), (4, 1), (4, 4000)] g h0 v4 → k146 v0 v1 v2 v3 v4 = some h9 → FrC P [(1, 4), (1, 2003), (4, 1), (4, 4000)] g h0 h9) (F0 : FrC P [(1, 4), (1, 2003), (4, 1), (4, 4000)] g h0 h) (hf : pX1_remainder_b146 g this p1 p2 k146 l7 l9 l10 l12 h = some h9) : FrC P [(1, 4), (1, 2003), (4, 1), (4, 4000)] g h0 h9 := by
  unfold pX1_remainder_b146 at hf
  by_cases c1 : l12 ≤ 0
  · rw [if_pos c1] at hf
    replace hf := bd_i hf; obtain ⟨x2, q2, hf⟩ := hf
    replace hf := tg_i hf; obtain ⟨t3, hf⟩ := hf
    by_cases c4 : 0 ≤ (Op.cmpValue (FP.dcmp (hD h p1 0) 0) .g)
    · rw [if_pos c4] at hf
      exact pX1_remainder_b200_fr t0 P_this P_p1 P_p2 P_p1 F0 hf
    · rw [if_neg c4] at hf
      exact pX1_remainder_b200_fr t0 P_this P_p1 P_p2 P_p1 F0 hf
  · rw [if_neg c1] at hf
    replace hf := (dvL_i hf).2
    obtain ⟨x7, e5⟩ : ∃ z, z = ((l10 <<< (Int32.toInt64 (pJ9_min_7cf53 l12 10) &&& 63)) - (l10 <<< (Int32.toInt64 (pJ9_min_7cf53 l12 10) &&& 63)) / l7 * l7) := ⟨_, rfl⟩; replace hf := lt_i hf x7 e5
    obtain ⟨x8, e6⟩ : ∃ z, z = (l12 + (-10)) := ⟨_, rfl⟩; replace hf := lt_i hf x8 e6
    exact hk146 _ _ _ _ _ F0 hf
set_option maxRecDepth 10000 in
set_option maxHeartbeats 2000000 in
theorem pX1_remainder_l146_fr {P : Nat → Prop} {g : MT} {this : Nat} {p1 : Nat} {p2 : Nat} {h0 : CT} {h9 : CT} (t0 : gT g this = 1) (P_this : P this) (P_p1 : P p1) (P_p2 : P p2) : ∀ (n : Nat) (v1 : Int64) (v2 : Int32) (v3 : Int64) (v4 : Int32) (v5 : CT), FrC P [(1, 4), (1, 2003), (4, 1), (4, 4000)] g h0 v5 → pX1_remainder_l146 g this p1 p2 n v1 v2 v3 v4 v5 = some h9 → FrC P [(1, 4), (1, 2003), (4, 1), (4, 4000)] g h0 h9 := by
  intro n
  induction n with
  | zero => intro v1 v2 v3 v4 v5 F0 hf; cases hf
  | succ n ih => intro v1 v2 v3 v4 v5 F0 hf; exact pX1_remainder_b146_fr t0 P_this P_p1 P_p2 ih F0 hf
set_option maxRecDepth 10000 in
set_option maxHeartbeats 2000000 in
theorem pX1_remainder_b81_fr {P : Nat → Prop} {g : MT} {this : Nat} {p1 : Nat} {p2 : Nat} {l3 : UInt64} {s0 : UInt64} {h : CT} {h0 : CT} {h9 : CT} (t0 : gT g this = 1) (P_this : P this) (P_p1 : P p1) (P_p2 : P p2) (F0 : FrC P [(1, 4), (1, 2003), (4, 1), (4, 4000)] g h0 h) (hf : pX1_remainder_b81 g this p1 p2 l3 s0 h = some h9) : FrC P [(1, 4), (1, 2003), (4, 1), (4, 4000)] g h0 h9 := by
  unfold pX1_remainder_b81 at hf
  by_cases c1 : (Op.cmpValue (FP.dcmp l3 s0) .g) < 0
  · rw [if_pos c1] at hf
    cases hf
    exact F0
  · rw [if_neg c1] at hf
    by_cases c2 : (Op.cmpValue (FP.dcmp l3 0) .l) = 0
    · rw [if_pos c2] at hf
      cases hf
      exact F0
    · rw [if_neg c2] at hf
      replace hf := bd_i hf; obtain ⟨h3, q3, hf⟩ := hf
      have F4 := FrC.trans F0 (pX1_split_fr F0.1 P_this q3) (by decide)
      obtain ⟨x5, e5⟩ : ∃ z, z = (hL h3 this 3) := ⟨_, rfl⟩; replace hf := lt_i hf x5 e5
      obtain ⟨x6, e6⟩ : ∃ z, z = (hI h3 this 4) := ⟨_, rfl⟩; replace hf := lt_i hf x6 e6
      replace hf := bd_i hf; obtain ⟨h7, q7, hf⟩ := hf
      have F8 := FrC.trans F4 (pX1_split_fr F4.1 P_this q7) (by decide)
      by_cases c9 : 0 < (lg_cmp x5 0)
      · rw [if_pos c9] at hf
        replace hf := (dvL_i hf).2
        obtain ⟨x11, e10⟩ : ∃ z, z = ((hL h7 this 3) - (hL h7 this 3) / x5 * x5) := ⟨_, rfl⟩; replace hf := lt_i hf x11 e10
        obtain ⟨x12, e11⟩ : ∃ z, z = ((hI h7 this 4) - x6) := ⟨_, rfl⟩; replace hf := lt_i hf x12 e11
        exact pX1_remainder_l146_fr t0 P_this P_p1 P_p2 _ _ _ _ _ _ F8 hf
      · rw [if_neg c9] at hf
        cases hf
        exact F8
set_option maxRecDepth 10000 in
set_option maxHeartbeats 2000000 in
theorem pX1_remainder_b59_fr {P : Nat → Prop} {g : MT} {this : Nat} {p1 : Nat} {p2 : Nat} {s0 : UInt64} {h : CT} {h0 : CT} {h9 : CT} (t0 : gT g this = 1) (P_this : P this) (P_p1 : P p1) (P_p2 : P p2) (F0 : FrC P [(1, 4), (1, 2003), (4, 1), (4, 4000)] g h0 h) (hf : pX1_remainder_b59 g this p1 p2 s0 h = some h9) : FrC P [(1, 4), (1, 2003), (4, 1), (4, 4000)] g h0 h9 := by
  unfold pX1_remainder_b59 at hf
  replace hf := tg_i hf; obtain ⟨t1, hf⟩ := hf
  by_cases c2 : 0 ≤ (Op.cmpValue (FP.dcmp (hD h p2 0) 0) .g)
  · rw [if_pos c2] at hf
    exact pX1_remainder_b81_fr t0 P_this P_p1 P_p2 F0 hf
  · rw [if_neg c2] at hf
    exact pX1_remainder_b81_fr t0 P_this P_p1 P_p2 F0 hf
set_option maxRecDepth 10000 in
set_option maxHeartbeats 2000000 in
theorem pX1_remainder_fr {P : Nat → Prop} {g : MT} {h : CT} {this : Nat} {p1 : Nat} {p2 : Nat} {h9 : CT} (hc : Cl P h) (P_this : P this) (P_p1 : P p1) (P_p2 : P p2) (hf : pX1_remainder g h this p1 p2 = some h9) : FrC P [(1, 4), (1, 2003), (4, 1), (4, 4000)] g h h9 := by
  have F0 : FrC P [(1, 4), (1, 2003), (4, 1), (4, 4000)] g h h := FrC.rf hc
  unfold pX1_remainder at hf
  replace hf := tg_i hf; obtain ⟨t1, hf⟩ := hf
  replace hf := tg_i hf; obtain ⟨t2, hf⟩ := hf
  by_cases c3 : (hI h p1 1) = 0
  · rw [if_pos c3] at hf
    replace hf := tg_i hf; obtain ⟨t4, hf⟩ := hf
    by_cases c5 : (hI h p2 1) = 0
    · rw [if_pos c5] at hf
      by_cases c6 : (pX4_isInfinite (hD h p1 0)) = 0
      · rw [if_pos c6] at hf
        by_cases c7 : (Op.cmpValue (FP.dcmp (hD h p2 0) 0) .l) = 0
        · rw [if_pos c7] at hf
          exact pX1_remainder_b33_fr t1 P_this P_p1 P_p2 F0 hf
        · rw [if_neg c7] at hf
          by_cases c8 : 0 ≤ (Op.cmpValue (FP.dcmp (hD h p1 0) 0) .g)
          · rw [if_pos c8] at hf
            exact pX1_remainder_b59_fr t1 P_this P_p1 P_p2 F0 hf
          · rw [if_neg c8] at hf
            exact pX1_remainder_b59_fr t1 P_this P_p1 P_p2 F0 hf
      · rw [if_neg c6] at hf
        exact pX1_remainder_b33_fr t1 P_this P_p1 P_p2 F0 hf
    · rw [if_neg c5] at hf
      exact pX1_remainder_b33_fr t1 P_this P_p1 P_p2 F0 hf
  · rw [if_neg c3] at hf
    exact pX1_remainder_b33_fr t1 P_this P_p1 P_p2 F0 hf
set_option maxRecDepth 10000 in
set_option maxHeartbeats 2000000 in
theorem pX7_at_fr {P : Nat → Prop} {g : MT} {h : CT} {this : Nat} {p1 : Int32} {r9 : Option Nat} (hc : Cl P h) (P_this : P this) (hf : pX7_at g h this p1 = some r9) : ∀ b, r9 = some b → P b := by
  have F0 : FrC P [] g h h := FrC.rf hc
  unfold pX7_at at hf
  replace hf := tg_i hf; obtain ⟨t1, hf⟩ := hf
  by_cases c2 : p1 < 0
  · rw [if_pos c2] at hf
    cases hf
    exact (fun b hb => by cases hb)
  · rw [if_neg c2] at hf
    by_cases c3 : (hI h this 1) ≤ p1
    · rw [if_pos c3] at hf
      cases hf
      exact (fun b hb => by cases hb)
    · rw [if_neg c3] at hf
      obtain ⟨r3, e4⟩ : ∃ z, z = (hR h this 0) := ⟨_, rfl⟩; replace hf := lt_i hf r3 e4
      replace hf := nn_i hf; obtain ⟨a3, e5, hf⟩ := hf
      replace hf := tg_i hf; obtain ⟨t6, hf⟩ := hf
      by_cases c7 : (Int32.ofNat (gL g a3)) ≤ p1
      · rw [if_pos c7] at hf
        cases hf
        exact (fun b hb => by cases hb)
      · rw [if_neg c7] at hf
        obtain ⟨r6, e8⟩ : ∃ z, z = (hR h this 0) := ⟨_, rfl⟩; replace hf := lt_i hf r6 e8
        replace hf := nn_i hf; obtain ⟨a6, e9, hf⟩ := hf
        replace hf := tg_i hf; obtain ⟨t10, hf⟩ := hf
        replace hf := (ix_i hf).2
        obtain ⟨r9, e11⟩ : ∃ z, z = (hR h a6 (Int32.toNatClampNeg p1)) := ⟨_, rfl⟩; replace hf := lt_i hf r9 e11
        cases hf
        exact (fun b hb => F0.1 _ _ b ((fun b hb => F0.1 _ _ b P_this (e8.symm.trans hb)) _ e9) (e11.symm.trans hb))
set_option maxRecDepth 10000 in
set_option maxHeartbeats 2000000 in
theorem pX7_copySwapped_b44_fr {P : Nat → Prop} {g : MT} {this : Nat} {p1 : Nat} {p2 : Int32} {h : CT} {h0 : CT} {h9 : CT} (t0 : gT g this = 6) (P_this : P this) (P_p1 : P p1) (F0 : FrC P [(6, 1), (25, 7000)] g h0 h) (hf : pX7_copySwapped_b44 g this p1 p2 h = some h9) : FrC P [(6, 1), (25, 7000)] g h0 h9 := by
  unfold pX7_copySwapped_b44 at hf
  replace hf := tg_i hf; obtain ⟨t1, hf⟩ := hf
  replace hf := bd_i hf; obtain ⟨r2, q2, hf⟩ := hf
  replace hf := bd_i hf; obtain ⟨r4, q3, hf⟩ := hf
  by_cases c4 : r2 = none
  · rw [if_pos c4] at hf
    cases hf
    exact F0
  · rw [if_neg c4] at hf
    by_cases c5 : r4 = none
    · rw [if_pos c5] at hf
      cases hf
      exact F0
    · rw [if_neg c5] at hf
      obtain ⟨r8, e6⟩ : ∃ z, z = (hR h this 0) := ⟨_, rfl⟩; replace hf := lt_i hf r8 e6
      replace hf := nn_i hf; obtain ⟨a8, e7, hf⟩ := hf
      replace hf := tg_i hf; obtain ⟨t8, hf⟩ := hf
      replace hf := (ix_i hf).2
      replace hf := nn_i hf; obtain ⟨a4, e9, hf⟩ := hf
      replace hf := tg_i hf; obtain ⟨t10, hf⟩ := hf
      obtain ⟨h12, e11⟩ : ∃ z, z = (sR h a8 (Int32.toNatClampNeg p2) (some a4)) := ⟨_, rfl⟩; replace hf := lt_i hf h12 e11
      have F12 := FrC.sR F0 ((fun b hb => F0.1 _ _ b P_this (e6.symm.trans hb)) _ e7) t8 (Or.inr (by decide)) (fun b hb => Option.some.inj hb ▸ ((pX7_at_fr F0.1 P_p1 q3) _ e9)) e11
      obtain ⟨r13, e13⟩ : ∃ z, z = (hR h12 this 0) := ⟨_, rfl⟩; replace hf := lt_i hf r13 e13
      replace hf := nn_i hf; obtain ⟨a13, e14, hf⟩ := hf
      replace hf := tg_i hf; obtain ⟨t15, hf⟩ := hf
      replace hf := (ix_i hf).2
      replace hf := nn_i hf; obtain ⟨a2, e16, hf⟩ := hf
      replace hf := tg_i hf; obtain ⟨t17, hf⟩ := hf
      obtain ⟨h17, e18⟩ : ∃ z, z = (sR h12 a13 (Int32.toNatClampNeg (p2 + 1)) (some a2)) := ⟨_, rfl⟩; replace hf := lt_i hf h17 e18
      have F19 := FrC.sR F12 ((fun b hb => F12.1 _ _ b P_this (e13.symm.trans hb)) _ e14) t15 (Or.inr (by decide)) (fun b hb => Option.some.inj hb ▸ ((pX7_at_fr F0.1 P_p1 q2) _ e16)) e18
      cases hf
      exact F19
set_option maxRecDepth 10000 in
set_option maxHeartbeats 2000000 in
theorem pX7_copySwapped_b10_fr {P : Nat → Prop} {g : MT} {this : Nat} {p1 : Nat} {p2 : Int32} {k10 : Int32 → CT → Option CT} {l3 : Int32} {h : CT} {h0 : CT} {h9 : CT} (t0 : gT g this = 6) (P_this : P this) (P_p1 : P p1) (hk10 : ∀ (v0 : Int32) (v1 : CT), FrC P [(6, 1), (25, 7000)] g h0 v1 → k10 v0 v1 = some h9 → FrC P [(6, 1), (25, 7000)] g h0 h9) (F0 : FrC P [(6, 1), (25, 7000)] g h0 h) (hf : pX7_copySwapped_b10 g this p1 p2 k10 l3 h = some h9) : FrC P [(6, 1), (25, 7000)] g h0 h9 := by
  unfold pX7_copySwapped_b10 at hf
  by_cases c1 : (hI h this 1) ≤ l3
  · rw [if_pos c1] at hf
    exact pX7_copySwapped_b44_fr t0 P_this P_p1 F0 hf
  · rw [if_neg c1] at hf
    obtain ⟨r2, e2⟩ : ∃ z, z = (hR h this 0) := ⟨_, rfl⟩; replace hf := lt_i hf r2 e2
    replace hf := nn_i hf; obtain ⟨a2, e3, hf⟩ := hf
    replace hf := tg_i hf; obtain ⟨t4, hf⟩ := hf
    by_cases c5 : (Int32.ofNat (gL g a2)) ≤ l3
    · rw [if_pos c5] at hf
      exact pX7_copySwapped_b44_fr t0 P_this P_p1 F0 hf
    · rw [if_neg c5] at hf
      obtain ⟨r5, e6⟩ : ∃ z, z = (hR h this 0) := ⟨_, rfl⟩; replace hf := lt_i hf r5 e6
      replace hf := tg_i hf; obtain ⟨t7, hf⟩ := hf
      replace hf := bd_i hf; obtain ⟨r7, q8, hf⟩ := hf
      replace hf := nn_i hf; obtain ⟨a5, e9, hf⟩ := hf
      replace hf := tg_i hf; obtain ⟨t10, hf⟩ := hf
      replace hf := (ix_i hf).2
      replace hf := nn_i hf; obtain ⟨a7, e11, hf⟩ := hf
      replace hf := tg_i hf; obtain ⟨t12, hf⟩ := hf
      obtain ⟨h12, e13⟩ : ∃ z, z = (sR h a5 (Int32.toNatClampNeg l3) (some a7)) := ⟨_, rfl⟩; replace hf := lt_i hf h12 e13
      have F14 := FrC.sR F0 ((fun b hb => F0.1 _ _ b P_this (e6.symm.trans hb)) _ e9) t10 (Or.inr (by decide)) (fun b hb => Option.some.inj hb ▸ ((pX7_at_fr F0.1 P_p1 q8) _ e11)) e13
      obtain ⟨x13, e15⟩ : ∃ z, z = (l3 + 1) := ⟨_, rfl⟩; replace hf := lt_i hf x13 e15
      exact hk10 _ _ F14 hf
set_option maxRecDepth 10000 in
set_option maxHeartbeats 2000000 in
theorem pX7_copySwapped_l10_fr {P : Nat → Prop} {g : MT} {this : Nat} {p1 : Nat} {p2 : Int32} {h0 : CT} {h9 : CT} (t0 : gT g this = 6) (P_this : P this) (P_p1 : P p1) : ∀ (n : Nat) (v1 : Int32) (v2 : CT), FrC P [(6, 1), (25, 7000)] g h0 v2 → pX7_copySwapped_l10 g this p1 p2 n v1 v2 = some h9 → FrC P [(6, 1), (25, 7000)] g h0 h9 := by
  intro n
  induction n with
  | zero => intro v1 v2 F0 hf; cases hf
  | succ n ih => intro v1 v2 F0 hf; exact pX7_copySwapped_b10_fr t0 P_this P_p1 ih F0 hf
set_option maxRecDepth 10000 in
set_option maxHeartbeats 2000000 in
theorem pX7_copySwapped_fr {P : Nat → Prop} {g : MT} {h : CT} {this : Nat} {p1 : Nat} {p2 : Int32} {h9 : CT} (hc : Cl P h) (P_this : P this) (P_p1 : P p1) (hf : pX7_copySwapped g h this p1 p2 = some h9) : FrC P [(6, 1), (25, 7000)] g h h9 := by
  have F0 : FrC P [(6, 1), (25, 7000)] g h h := FrC.rf hc
  unfold pX7_copySwapped at hf
  replace hf := tg_i hf; obtain ⟨t1, hf⟩ := hf
  replace hf := tg_i hf; obtain ⟨t2, hf⟩ := hf
  obtain ⟨h2, e3⟩ : ∃ z, z = (sI h this 1 (hI h p1 1)) := ⟨_, rfl⟩; replace hf := lt_i hf h2 e3
  have F4 := FrC.sI F0 P_this t1 (Or.inl (by decide)) e3
  exact pX7_copySwapped_l10_fr t1 P_this P_p1 _ _ _ F4 hf
set_option maxRecDepth 10000 in
set_option maxHeartbeats 2000000 in
theorem pX10_clear_fr {P : Nat → Prop} {g : MT} {h : CT} {this : Nat} {h9 : CT} (hc : Cl P h) (P_this : P this) (hf : pX10_clear g h this = some h9) : FrC P [(9, 0), (9, 1), (9, 2), (9, 3), (9, 4), (9, 5), (9, 8), (9, 9), (9, 10), (9, 11), (9, 12), (20, 1000)] g h h9 := by
  have F0 : FrC P [(9, 0), (9, 1), (9, 2), (9, 3), (9, 4), (9, 5), (9, 8), (9, 9), (9, 10), (9, 11), (9, 12), (20, 1000)] g h h := FrC.rf hc
  unfold pX10_clear at hf
  replace hf := tg_i hf; obtain ⟨t1, hf⟩ := hf
  obtain ⟨h1, e2⟩ : ∃ z, z = (sI h this 0 0) := ⟨_, rfl⟩; replace hf := lt_i hf h1 e2
  have F3 := FrC.sI F0 P_this t1 (Or.inl (by decide)) e2
  obtain ⟨h2, e4⟩ : ∃ z, z = (sI h1 this 1 0) := ⟨_, rfl⟩; replace hf := lt_i hf h2 e4
  have F5 := FrC.sI F3 P_this t1 (Or.inl (by decide)) e4
  obtain ⟨h3, e6⟩ : ∃ z, z = (sI h2 this 2 0) := ⟨_, rfl⟩; replace hf := lt_i hf h3 e6
  have F7 := FrC.sI F5 P_this t1 (Or.inl (by decide)) e6
  obtain ⟨h4, e8⟩ : ∃ z, z = (sI h3 this 3 0) := ⟨_, rfl⟩; replace hf := lt_i hf h4 e8
  have F9 := FrC.sI F7 P_this t1 (Or.inl (by decide)) e8
  obtain ⟨h5, e10⟩ : ∃ z, z = (sI h4 this 4 (-1)) := ⟨_, rfl⟩; replace hf := lt_i hf h5 e10
  have F11 := FrC.sI F9 P_this t1 (Or.inl (by decide)) e10
  obtain ⟨h6, e12⟩ : ∃ z, z = (sI h5 this 5 (-1)) := ⟨_, rfl⟩; replace hf := lt_i hf h6 e12
  have F13 := FrC.sI F11 P_this t1 (Or.inl (by decide)) e12
  obtain ⟨h7, e14⟩ : ∃ z, z = (sI h6 this 8 (-1)) := ⟨_, rfl⟩; replace hf := lt_i hf h7 e14
  have F15 := FrC.sI F13 P_this t1 (Or.inl (by decide)) e14
  obtain ⟨h8, e16⟩ : ∃ z, z = (sI h7 this 9 0) := ⟨_, rfl⟩; replace hf := lt_i hf h8 e16
  have F17 := FrC.sI F15 P_this t1 (Or.inl (by decide)) e16
  obtain ⟨h9, e18⟩ : ∃ z, z = (sI h8 this 10 0) := ⟨_, rfl⟩; replace hf := lt_i hf h9 e18
  have F19 := FrC.sI F17 P_this t1 (Or.inl (by decide)) e18
  obtain ⟨h10, e20⟩ : ∃ z, z = (sI h9 this 11 0) := ⟨_, rfl⟩; replace hf := lt_i hf h10 e20
  have F21 := FrC.sI F19 P_this t1 (Or.inl (by decide)) e20
  obtain ⟨h11, e22⟩ : ∃ z, z = (sI h10 this 12 0) := ⟨_, rfl⟩; replace hf := lt_i hf h11 e22
  have F23 := FrC.sI F21 P_this t1 (Or.inl (by decide)) e22
  obtain ⟨r12, e24⟩ : ∃ z, z = (hR h11 this 6) := ⟨_, rfl⟩; replace hf := lt_i hf r12 e24
  replace hf := nn_i hf; obtain ⟨a12, e25, hf⟩ := hf
  replace hf := bd_i hf; obtain ⟨h13, q26, hf⟩ := hf
  have F27 := FrC.trans F23 (pJ7_fill_53178_fr F23.1 ((fun b hb => F23.1 _ _ b P_this (e24.symm.trans hb)) _ e25) q26) (by decide)
  obtain ⟨r15, e28⟩ : ∃ z, z = (hR h13 this 7) := ⟨_, rfl⟩; replace hf := lt_i hf r15 e28
  replace hf := nn_i hf; obtain ⟨a15, e29, hf⟩ := hf
  replace hf := bd_i hf; obtain ⟨h16, q30, hf⟩ := hf
  have F31 := FrC.trans F27 (pJ7_fill_53178_fr F27.1 ((fun b hb => F27.1 _ _ b P_this (e28.symm.trans hb)) _ e29) q30) (by decide)
  obtain ⟨r18, e32⟩ : ∃ z, z = (hR h16 this 13) := ⟨_, rfl⟩; replace hf := lt_i hf r18 e32
  replace hf := nn_i hf; obtain ⟨a18, e33, hf⟩ := hf
  replace hf := bd_i hf; obtain ⟨h19, q34, hf⟩ := hf
  have F35 := FrC.trans F31 (pJ7_fill_53178_fr F31.1 ((fun b hb => F31.1 _ _ b P_this (e32.symm.trans hb)) _ e33) q34) (by decide)
  obtain ⟨r21, e36⟩ : ∃ z, z = (hR h19 this 14) := ⟨_, rfl⟩; replace hf := lt_i hf r21 e36
  replace hf := nn_i hf; obtain ⟨a21, e37, hf⟩ := hf
  replace hf := bd_i hf; obtain ⟨h22, q38, hf⟩ := hf
  have F39 := FrC.trans F35 (pJ7_fill_53178_fr F35.1 ((fun b hb => F35.1 _ _ b P_this (e36.symm.trans hb)) _ e37) q38) (by decide)
  obtain ⟨r24, e40⟩ : ∃ z, z = (hR h22 this 15) := ⟨_, rfl⟩; replace hf := lt_i hf r24 e40
  replace hf := nn_i hf; obtain ⟨a24, e41, hf⟩ := hf
  replace hf := bd_i hf; obtain ⟨h25, q42, hf⟩ := hf
  have F43 := FrC.trans F39 (pJ7_fill_53178_fr F39.1 ((fun b hb => F39.1 _ _ b P_this (e40.symm.trans hb)) _ e41) q42) (by decide)
  obtain ⟨r27, e44⟩ : ∃ z, z = (hR h25 this 16) := ⟨_, rfl⟩; replace hf := lt_i hf r27 e44
  replace hf := nn_i hf; obtain ⟨a27, e45, hf⟩ := hf
  replace hf := bd_i hf; obtain ⟨h28, q46, hf⟩ := hf
  have F47 := FrC.trans F43 (pJ7_fill_53178_fr F43.1 ((fun b hb => F43.1 _ _ b P_this (e44.symm.trans hb)) _ e45) q46) (by decide)
  cases hf
  exact F47
set_option maxRecDepth 10000 in
set_option maxHeartbeats 2000000 in
theorem pX10_note_fr {P : Nat → Prop} {g : MT} {h : CT} {this : Nat} {p1 : Int32} {h9 : CT} (hc : Cl P h) (P_this : P this) (hf : pX10_note g h this p1 = some h9) : FrC P [(9, 0)] g h h9 := by
  have F0 : FrC P [(9, 0)] g h h := FrC.rf hc
  unfold pX10_note at hf
  replace hf := tg_i hf; obtain ⟨t1, hf⟩ := hf
  by_cases c2 : p1 ≤ (hI h this 0)
  · rw [if_pos c2] at hf
    cases hf
    exact F0
  · rw [if_neg c2] at hf
    obtain ⟨h2, e3⟩ : ∃ z, z = (sI h this 0 p1) := ⟨_, rfl⟩; replace hf := lt_i hf h2 e3
    have F4 := FrC.sI F0 P_this t1 (Or.inl (by decide)) e3
    cases hf
    exact F4
set_option maxRecDepth 10000 in
set_option maxHeartbeats 2000000 in
theorem pX10_readNow_fr {P : Nat → Prop} {g : MT} {h : CT} {this : Nat} {p1 : Int32} {p2 : Int32} {p3 : Int32} {h9 : CT} (hc : Cl P h) (P_this : P this) (hf : pX10_readNow g h this p1 p2 p3 = some h9) : FrC P [(20, 1000)] g h h9 := by
  have F0 : FrC P [(20, 1000)] g h h := FrC.rf hc
  unfold pX10_readNow at hf
  replace hf := tg_i hf; obtain ⟨t1, hf⟩ := hf
  obtain ⟨x1, e2⟩ : ∃ z, z = (pX10_cell p1 p2) := ⟨_, rfl⟩; replace hf := lt_i hf x1 e2
  obtain ⟨r2, e3⟩ : ∃ z, z = (hR h this 15) := ⟨_, rfl⟩; replace hf := lt_i hf r2 e3
  obtain ⟨r3, e4⟩ : ∃ z, z = (hR h this 15) := ⟨_, rfl⟩; replace hf := lt_i hf r3 e4
  replace hf := nn_i hf; obtain ⟨a3, e5, hf⟩ := hf
  replace hf := tg_i hf; obtain ⟨t6, hf⟩ := hf
  replace hf := (ix_i hf).2
  replace hf := nn_i hf; obtain ⟨a2, e7, hf⟩ := hf
  replace hf := tg_i hf; obtain ⟨t8, hf⟩ := hf
  replace hf := (ix_i hf).2
  obtain ⟨h8, e9⟩ : ∃ z, z = (sI h a2 (Int32.toNatClampNeg x1) (pJ9_max_7cf53 (hI h a3 (Int32.toNatClampNeg x1)) p3)) := ⟨_, rfl⟩; replace hf := lt_i hf h8 e9
  have F10 := FrC.sI F0 ((fun b hb => F0.1 _ _ b P_this (e3.symm.trans hb)) _ e7) t8 (Or.inr (by decide)) e9
  cases hf
  exact F10
set_option maxRecDepth 10000 in
set_option maxHeartbeats 2000000 in
theorem pX10_readyFrom_fr {P : Nat → Prop} {g : MT} {h : CT} {this : Nat} {p1 : Int32} {p2 : Int32} {p3 : Int32} {h9 : CT} (hc : Cl P h) (P_this : P this) (hf : pX10_readyFrom g h this p1 p2 p3 = some h9) : FrC P [(9, 0), (20, 1000)] g h h9 := by
  have F0 : FrC P [(9, 0), (20, 1000)] g h h := FrC.rf hc
  unfold pX10_readyFrom at hf
  replace hf := tg_i hf; obtain ⟨t1, hf⟩ := hf
  obtain ⟨r1, e2⟩ : ∃ z, z = (hR h this 14) := ⟨_, rfl⟩; replace hf := lt_i hf r1 e2
  replace hf := nn_i hf; obtain ⟨a1, e3, hf⟩ := hf
  replace hf := tg_i hf; obtain ⟨t4, hf⟩ := hf
  replace hf := (ix_i hf).2
  obtain ⟨h4, e5⟩ : ∃ z, z = (sI h a1 (Int32.toNatClampNeg (pX10_cell p1 p2)) p3) := ⟨_, rfl⟩; replace hf := lt_i hf h4 e5
  have F6 := FrC.sI F0 ((fun b hb => F0.1 _ _ b P_this (e2.symm.trans hb)) _ e3) t4 (Or.inr (by decide)) e5
  replace hf := bd_i hf; obtain ⟨h5, q7, hf⟩ := hf
  have F8 := FrC.trans F6 (pX10_note_fr F6.1 P_this q7) (by decide)
  cases hf
  exact F8
set_option maxRecDepth 10000 in
set_option maxHeartbeats 2000000 in
theorem pX10_beginEnd_fr {P : Nat → Prop} {g : MT} {h : CT} {this : Nat} {h9 : CT} (hc : Cl P h) (P_this : P this) (hf : pX10_beginEnd g h this = some h9) : FrC P [(9, 0), (9, 8)] g h h9 := by
  have F0 : FrC P [(9, 0), (9, 8)] g h h := FrC.rf hc
  unfold pX10_beginEnd at hf
  replace hf := tg_i hf; obtain ⟨t1, hf⟩ := hf
  obtain ⟨h1, e2⟩ : ∃ z, z = (sI h this 8 (pJ9_max_7cf53 ((hI h this 8) + 1) (hI h this 9))) := ⟨_, rfl⟩; replace hf := lt_i hf h1 e2
  have F3 := FrC.sI F0 P_this t1 (Or.inl (by decide)) e2
  replace hf := bd_i hf; obtain ⟨h2, q4, hf⟩ := hf
  have F5 := FrC.trans F3 (pX10_note_fr F3.1 P_this q4) (by decide)
  cases hf
  exact F5
set_option maxRecDepth 10000 in
set_option maxHeartbeats 2000000 in
theorem pX10_endAt_fr {P : Nat → Prop} {g : MT} {h : CT} {this : Nat} {p1 : Int32} {p2 : Int32} {h9 : CT} (hc : Cl P h) (P_this : P this) (hf : pX10_endAt g h this p1 p2 = some h9) : FrC P [(9, 0), (20, 1000)] g h h9 := by
  have F0 : FrC P [(9, 0), (20, 1000)] g h h := FrC.rf hc
  unfold pX10_endAt at hf
  replace hf := tg_i hf; obtain ⟨t1, hf⟩ := hf
  replace hf := bd_i hf; obtain ⟨h1, q2, hf⟩ := hf
  have F3 := FrC.trans F0 (pX10_note_fr F0.1 P_this q2) (by decide)
  by_cases c4 : p1 < 0
  · rw [if_pos c4] at hf
    cases hf
    exact F3
  · rw [if_neg c4] at hf
    obtain ⟨r4, e5⟩ : ∃ z, z = (hR h1 this 7) := ⟨_, rfl⟩; replace hf := lt_i hf r4 e5
    replace hf := nn_i hf; obtain ⟨a4, e6, hf⟩ := hf
    replace hf := tg_i hf; obtain ⟨t7, hf⟩ := hf
    by_cases c8 : (Int32.ofNat (gL g a4)) ≤ p1
    · rw [if_pos c8] at hf
      cases hf
      exact F3
    · rw [if_neg c8] at hf
      obtain ⟨r7, e9⟩ : ∃ z, z = (hR h1 this 7) := ⟨_, rfl⟩; replace hf := lt_i hf r7 e9
      replace hf := nn_i hf; obtain ⟨a7, e10, hf⟩ := hf
      replace hf := tg_i hf; obtain ⟨t11, hf⟩ := hf
      replace hf := (ix_i hf).2
      obtain ⟨h10, e12⟩ : ∃ z, z = (sI h1 a7 (Int32.toNatClampNeg p1) p2) := ⟨_, rfl⟩; replace hf := lt_i hf h10 e12
      have F13 := FrC.sI F3 ((fun b hb => F3.1 _ _ b P_this (e9.symm.trans hb)) _ e10) t11 (Or.inr (by decide)) e12
      cases hf
      exact F13
set_option maxRecDepth 10000 in
set_option maxHeartbeats 2000000 in
theorem pX10_readOperands_b48_fr {P : Nat → Prop} {E : EC} {g : MT} {this : Nat} {p1 : Nat} {p2 : Int32} {h : CT} {h0 : CT} {h9 : CT} (t0 : gT g this = 9) (PE : PEc P E) (P_this : P this) (P_p1 : P p1) (F0 : FrC P [(20, 1000)] g h0 h) (hf : pX10_readOperands_b48 E g this p1 p2 h = some h9) : FrC P [(20, 1000)] g h0 h9 := by
  unfold pX10_readOperands_b48 at hf
  replace hf := tg_i hf; obtain ⟨t1, hf⟩ := hf
  obtain ⟨r2, e2⟩ : ∃ z, z = (hR h p1 0) := ⟨_, rfl⟩; replace hf := lt_i hf r2 e2
  replace hf := nn_i hf; obtain ⟨a2, e3, hf⟩ := hf
  replace hf := tg_i hf; obtain ⟨t4, hf⟩ := hf
  replace hf := bd_i hf; obtain ⟨x4, q5, hf⟩ := hf
  by_cases c6 : x4 = 0
  · rw [if_pos c6] at hf
    cases hf
    exact F0
  · rw [if_neg c6] at hf
    replace hf := bd_i hf; obtain ⟨h7, q7, hf⟩ := hf
    have F8 := FrC.trans F0 (pX10_readNow_fr F0.1 P_this q7) (by decide)
    cases hf
    exact F8
set_option maxRecDepth 10000 in
set_option maxHeartbeats 2000000 in
theorem pX10_readOperands_b24_fr {P : Nat → Prop} {E : EC} {g : MT} {this : Nat} {p1 : Nat} {p2 : Int32} {h : CT} {h0 : CT} {h9 : CT} (t0 : gT g this = 9) (PE : PEc P E) (P_this : P this) (P_p1 : P p1) (F0 : FrC P [(20, 1000)] g h0 h) (hf : pX10_readOperands_b24 E g this p1 p2 h = some h9) : FrC P [(20, 1000)] g h0 h9 := by
  unfold pX10_readOperands_b24 at hf
  replace hf := tg_i hf; obtain ⟨t1, hf⟩ := hf
  obtain ⟨r2, e2⟩ : ∃ z, z = (hR h p1 0) := ⟨_, rfl⟩; replace hf := lt_i hf r2 e2
  replace hf := nn_i hf; obtain ⟨a2, e3, hf⟩ := hf
  replace hf := tg_i hf; obtain ⟨t4, hf⟩ := hf
  replace hf := bd_i hf; obtain ⟨x4, q5, hf⟩ := hf
  by_cases c6 : x4 = 0
  · rw [if_pos c6] at hf
    exact pX10_readOperands_b48_fr t0 PE P_this P_p1 F0 hf
  · rw [if_neg c6] at hf
    replace hf := bd_i hf; obtain ⟨h7, q7, hf⟩ := hf
    have F8 := FrC.trans F0 (pX10_readNow_fr F0.1 P_this q7) (by decide)
    exact pX10_readOperands_b48_fr t0 PE P_this P_p1 F8 hf
set_option maxRecDepth 10000 in
set_option maxHeartbeats 2000000 in
theorem pX10_readOperands_fr {P : Nat → Prop} {E : EC} {g : MT} {h : CT} {this : Nat} {p1 : Nat} {p2 : Int32} {h9 : CT} (PE : PEc P E) (hc : Cl P h) (P_this : P this) (P_p1 : P p1) (hf : pX10_readOperands E g h this p1 p2 = some h9) : FrC P [(20, 1000)] g h h9 := by
  have F0 : FrC P [(20, 1000)] g h h := FrC.rf hc
  unfold pX10_readOperands at hf
  replace hf := tg_i hf; obtain ⟨t1, hf⟩ := hf
  replace hf := tg_i hf; obtain ⟨t2, hf⟩ := hf
  obtain ⟨r2, e3⟩ : ∃ z, z = (hR h p1 0) := ⟨_, rfl⟩; replace hf := lt_i hf r2 e3
  replace hf := nn_i hf; obtain ⟨a2, e4, hf⟩ := hf
  replace hf := tg_i hf; obtain ⟨t5, hf⟩ := hf
  replace hf := bd_i hf; obtain ⟨x4, q6, hf⟩ := hf
  by_cases c7 : x4 = 0
  · rw [if_pos c7] at hf
    exact pX10_readOperands_b24_fr t1 PE P_this P_p1 F0 hf
  · rw [if_neg c7] at hf
    replace hf := bd_i hf; obtain ⟨h7, q8, hf⟩ := hf
    have F9 := FrC.trans F0 (pX10_readNow_fr F0.1 P_this q8) (by decide)
    exact pX10_readOperands_b24_fr t1 PE P_this P_p1 F9 hf
set_option maxRecDepth 10000 in
set_option maxHeartbeats 2000000 in
theorem pX10_throughBank_fr {P : Nat → Prop} {g : MT} {h : CT} {this : Nat} {p1 : Int32} {p2 : Int32} {p3 : Int32} {r9 : Int32} {h9 : CT} (hc : Cl P h) (P_this : P this) (hf : pX10_throughBank g h this p1 p2 p3 = some (r9, h9)) : FrC P [(9, 1), (20, 1000)] g h h9 := by
  have F0 : FrC P [(9, 1), (20, 1000)] g h h := FrC.rf hc
  unfold pX10_throughBank at hf
  replace hf := tg_i hf; obtain ⟨t1, hf⟩ := hf
  by_cases c2 : p2 < 0
  · rw [if_pos c2] at hf
    cases hf
    exact F0
  · rw [if_neg c2] at hf
    obtain ⟨r2, e3⟩ : ∃ z, z = (hR h this 16) := ⟨_, rfl⟩; replace hf := lt_i hf r2 e3
    replace hf := nn_i hf; obtain ⟨a2, e4, hf⟩ := hf
    replace hf := tg_i hf; obtain ⟨t5, hf⟩ := hf
    by_cases c6 : p2 < (Int32.ofNat (gL g a2))
    · rw [if_pos c6] at hf
      obtain ⟨r5, e7⟩ : ∃ z, z = (hR h this 16) := ⟨_, rfl⟩; replace hf := lt_i hf r5 e7
      replace hf := nn_i hf; obtain ⟨a5, e8, hf⟩ := hf
      replace hf := tg_i hf; obtain ⟨t9, hf⟩ := hf
      replace hf := (ix_i hf).2
      obtain ⟨x8, e10⟩ : ∃ z, z = (pJ9_max_7cf53 p1 (hI h a5 (Int32.toNatClampNeg p2))) := ⟨_, rfl⟩; replace hf := lt_i hf x8 e10
      obtain ⟨h9, e11⟩ : ∃ z, z = (sI h this 1 ((hI h this 1) + (x8 - p1))) := ⟨_, rfl⟩; replace hf := lt_i hf h9 e11
      have F12 := FrC.sI F0 P_this t1 (Or.inl (by decide)) e11
      obtain ⟨r10, e13⟩ : ∃ z, z = (hR h9 this 16) := ⟨_, rfl⟩; replace hf := lt_i hf r10 e13
      replace hf := nn_i hf; obtain ⟨a10, e14, hf⟩ := hf
      replace hf := tg_i hf; obtain ⟨t15, hf⟩ := hf
      replace hf := (ix_i hf).2
      obtain ⟨h13, e16⟩ : ∃ z, z = (sI h9 a10 (Int32.toNatClampNeg p2) (x8 + p3)) := ⟨_, rfl⟩; replace hf := lt_i hf h13 e16
      have F17 := FrC.sI F12 ((fun b hb => F12.1 _ _ b P_this (e13.symm.trans hb)) _ e14) t15 (Or.inr (by decide)) e16
      cases hf
      exact F17
    · rw [if_neg c6] at hf
      cases hf
      exact F0
set_option maxRecDepth 10000 in
set_option maxHeartbeats 2000000 in
theorem pX10_finish_b118_fr {P : Nat → Prop} {E : EC} {g : MT} {this : Nat} {p1 : Nat} {p2 : Int32} {k118 : Int32 → Int32 → CT → Option CT} {l4 : Int32} {l5 : Int32} {h : CT} {h0 : CT} {h9 : CT} (t0 : gT g this = 9) (PE : PEc P E) (P_this : P this) (P_p1 : P p1) (hk118 : ∀ (v0 : Int32) (v1 : Int32) (v2 : CT), FrC P [(9, 0), (9, 11), (9, 12), (20, 1000)] g h0 v2 → k118 v0 v1 v2 = some h9 → FrC P [(9, 0), (9, 11), (9, 12), (20, 1000)] g h0 h9) (F0 : FrC P [(9, 0), (9, 11), (9, 12), (20, 1000)] g h0 h) (hf : pX10_finish_b118 E g this p1 p2 k118 l4 l5 h = some h9) : FrC P [(9, 0), (9, 11), (9, 12), (20, 1000)] g h0 h9 := by
  unfold pX10_finish_b118 at hf
  by_cases c1 : p2 ≤ l5
  · rw [if_pos c1] at hf
    cases hf
    exact F0
  · rw [if_neg c1] at hf
    replace hf := tg_i hf; obtain ⟨t2, hf⟩ := hf
    replace hf := bd_i hf; obtain ⟨h3, q3, hf⟩ := hf
    have F4 := FrC.trans F0 (pX10_readyFrom_fr F0.1 P_this q3) (by decide)
    obtain ⟨x5, e5⟩ : ∃ z, z = (l5 + 1) := ⟨_, rfl⟩; replace hf := lt_i hf x5 e5
    exact hk118 _ _ _ F4 hf
set_option maxRecDepth 10000 in
set_option maxHeartbeats 2000000 in
theorem pX10_finish_l118_fr {P : Nat → Prop} {E : EC} {g : MT} {this : Nat} {p1 : Nat} {p2 : Int32} {h0 : CT} {h9 : CT} (t0 : gT g this = 9) (PE : PEc P E) (P_this : P this) (P_p1 : P p1) : ∀ (n : Nat) (v1 : Int32) (v2 : Int32) (v3 : CT), FrC P [(9, 0), (9, 11), (9, 12), (20, 1000)] g h0 v3 → pX10_finish_l118 E g this p1 p2 n v1 v2 v3 = some h9 → FrC P [(9, 0), (9, 11), (9, 12), (20, 1000)] g h0 h9 := by
  intro n
  induction n with
  | zero => intro v1 v2 v3 F0 hf; cases hf
  | succ n ih => intro v1 v2 v3 F0 hf; exact pX10_finish_b118_fr t0 PE P_this P_p1 ih F0 hf
set_option maxRecDepth 10000 in
set_option maxHeartbeats 2000000 in
theorem pX10_finish_b105_fr {P : Nat → Prop} {E : EC} {g : MT} {this : Nat} {p1 : Nat} {p2 : Int32} {l4 : Int32} {h : CT} {h0 : CT} {h9 : CT} (t0 : gT g this = 9) (PE : PEc P E) (P_this : P this) (P_p1 : P p1) (F0 : FrC P [(9, 0), (9, 11), (9, 12), (20, 1000)] g h0 h) (hf : pX10_finish_b105 E g this p1 p2 l4 h = some h9) : FrC P [(9, 0), (9, 11), (9, 12), (20, 1000)] g h0 h9 := by
  unfold pX10_finish_b105 at hf
  replace hf := tg_i hf; obtain ⟨t1, hf⟩ := hf
  obtain ⟨r2, e2⟩ : ∃ z, z = (hR h p1 0) := ⟨_, rfl⟩; replace hf := lt_i hf r2 e2
  replace hf := kR_i hf; obtain ⟨a3, e3, hf⟩ := hf
  by_cases c4 : r2 = (some a3)
  · rw [if_pos c4] at hf
    exact pX10_finish_l118_fr t0 PE P_this P_p1 _ _ _ _ F0 hf
  · rw [if_neg c4] at hf
    cases hf
    exact F0
set_option maxRecDepth 10000 in
set_option maxHeartbeats 2000000 in
theorem pX10_finish_b90_fr {P : Nat → Prop} {E : EC} {g : MT} {this : Nat} {p1 : Nat} {p2 : Int32} {l4 : Int32} {h : CT} {h0 : CT} {h9 : CT} (t0 : gT g this = 9) (PE : PEc P E) (P_this : P this) (P_p1 : P p1) (F0 : FrC P [(9, 0), (9, 11), (9, 12), (20, 1000)] g h0 h) (hf : pX10_finish_b90 E g this p1 p2 l4 h = some h9) : FrC P [(9, 0), (9, 11), (9, 12), (20, 1000)] g h0 h9 := by
  unfold pX10_finish_b90 at hf
  obtain ⟨h1, e1⟩ : ∃ z, z = (sI h this 12 (pJ9_max_7cf53 (hI h this 12) (hI h this 10))) := ⟨_, rfl⟩; replace hf := lt_i hf h1 e1
  have F2 := FrC.sI F0 P_this t0 (Or.inl (by decide)) e1
  exact pX10_finish_b105_fr t0 PE P_this P_p1 F2 hf
set_option maxRecDepth 10000 in
set_option maxHeartbeats 2000000 in
theorem pX10_finish_b71_fr {P : Nat → Prop} {E : EC} {g : MT} {this : Nat} {p1 : Nat} {p2 : Int32} {l4 : Int32} {h : CT} {h0 : CT} {h9 : CT} (t0 : gT g this = 9) (PE : PEc P E) (P_this : P this) (P_p1 : P p1) (F0 : FrC P [(9, 0), (9, 11), (9, 12), (20, 1000)] g h0 h) (hf : pX10_finish_b71 E g this p1 p2 l4 h = some h9) : FrC P [(9, 0), (9, 11), (9, 12), (20, 1000)] g h0 h9 := by
  unfold pX10_finish_b71 at hf
  replace hf := tg_i hf; obtain ⟨t1, hf⟩ := hf
  by_cases c2 : (hI h p1 8) = 0
  · rw [if_pos c2] at hf
    obtain ⟨r3, e3⟩ : ∃ z, z = (hR h p1 0) := ⟨_, rfl⟩; replace hf := lt_i hf r3 e3
    replace hf := nn_i hf; obtain ⟨a3, e4, hf⟩ := hf
    replace hf := tg_i hf; obtain ⟨t5, hf⟩ := hf
    replace hf := bd_i hf; obtain ⟨x5, q6, hf⟩ := hf
    by_cases c7 : x5 = 0
    · rw [if_pos c7] at hf
      exact pX10_finish_b105_fr t0 PE P_this P_p1 F0 hf
    · rw [if_neg c7] at hf
      exact pX10_finish_b90_fr t0 PE P_this P_p1 F0 hf
  · rw [if_neg c2] at hf
    exact pX10_finish_b90_fr t0 PE P_this P_p1 F0 hf
set_option maxRecDepth 10000 in
set_option maxHeartbeats 2000000 in
theorem pX10_finish_b47_fr {P : Nat → Prop} {E : EC} {g : MT} {this : Nat} {p1 : Nat} {p2 : Int32} {l4 : Int32} {h : CT} {h0 : CT} {h9 : CT} (t0 : gT g this = 9) (PE : PEc P E) (P_this : P this) (P_p1 : P p1) (F0 : FrC P [(9, 0), (9, 11), (9, 12), (20, 1000)] g h0 h) (hf : pX10_finish_b47 E g this p1 p2 l4 h = some h9) : FrC P [(9, 0), (9, 11), (9, 12), (20, 1000)] g h0 h9 := by
  unfold pX10_finish_b47 at hf
  replace hf := tg_i hf; obtain ⟨t1, hf⟩ := hf
  obtain ⟨r2, e2⟩ : ∃ z, z = (hR h p1 0) := ⟨_, rfl⟩; replace hf := lt_i hf r2 e2
  replace hf := nn_i hf; obtain ⟨a2, e3, hf⟩ := hf
  replace hf := tg_i hf; obtain ⟨t4, hf⟩ := hf
  replace hf := bd_i hf; obtain ⟨x4, q5, hf⟩ := hf
  by_cases c6 : x4 = 0
  · rw [if_pos c6] at hf
    exact pX10_finish_b71_fr t0 PE P_this P_p1 F0 hf
  · rw [if_neg c6] at hf
    obtain ⟨h7, e7⟩ : ∃ z, z = (sI h this 11 l4) := ⟨_, rfl⟩; replace hf := lt_i hf h7 e7
    have F8 := FrC.sI F0 P_this t0 (Or.inl (by decide)) e7
    replace hf := bd_i hf; obtain ⟨h8, q9, hf⟩ := hf
    have F10 := FrC.trans F8 (pX10_note_fr F8.1 P_this q9) (by decide)
    exact pX10_finish_b71_fr t0 PE P_this P_p1 F10 hf
set_option maxRecDepth 10000 in
set_option maxHeartbeats 2000000 in
theorem pX10_finish_fr {P : Nat → Prop} {E : EC} {g : MT} {h : CT} {this : Nat} {p1 : Nat} {p2 : Int32} {h9 : CT} (PE : PEc P E) (hc : Cl P h) (P_this : P this) (P_p1 : P p1) (hf : pX10_finish E g h this p1 p2 = some h9) : FrC P [(9, 0), (9, 11), (9, 12), (20, 1000)] g h h9 := by
  have F0 : FrC P [(9, 0), (9, 11), (9, 12), (20, 1000)] g h h := FrC.rf hc
  unfold pX10_finish at hf
  replace hf := tg_i hf; obtain ⟨t1, hf⟩ := hf
  replace hf := tg_i hf; obtain ⟨t2, hf⟩ := hf
  obtain ⟨r2, e3⟩ : ∃ z, z = (hR h p1 0) := ⟨_, rfl⟩; replace hf := lt_i hf r2 e3
  replace hf := nn_i hf; obtain ⟨a2, e4, hf⟩ := hf
  replace hf := tg_i hf; obtain ⟨t5, hf⟩ := hf
  obtain ⟨x4, e6⟩ : ∃ z, z = (hI E.2.1 a2 2) := ⟨_, rfl⟩; replace hf := lt_i hf x4 e6
  obtain ⟨r5, e7⟩ : ∃ z, z = (hR h p1 0) := ⟨_, rfl⟩; replace hf := lt_i hf r5 e7
  replace hf := nn_i hf; obtain ⟨a5, e8, hf⟩ := hf
  replace hf := tg_i hf; obtain ⟨t9, hf⟩ := hf
  replace hf := bd_i hf; obtain ⟨x7, q10, hf⟩ := hf
  obtain ⟨x9, e11⟩ : ∃ z, z = ((hI h this 10) + x7) := ⟨_, rfl⟩; replace hf := lt_i hf x9 e11
  by_cases c12 : x4 < 0
  · rw [if_pos c12] at hf
    exact pX10_finish_b47_fr t1 PE P_this P_p1 F0 hf
  · rw [if_neg c12] at hf
    obtain ⟨r11, e13⟩ : ∃ z, z = (hR h this 13) := ⟨_, rfl⟩; replace hf := lt_i hf r11 e13
    replace hf := nn_i hf; obtain ⟨a11, e14, hf⟩ := hf
    replace hf := tg_i hf; obtain ⟨t15, hf⟩ := hf
    by_cases c16 : (Int32.ofNat (gL g a11)) ≤ x4
    · rw [if_pos c16] at hf
      exact pX10_finish_b47_fr t1 PE P_this P_p1 F0 hf
    · rw [if_neg c16] at hf
      obtain ⟨r14, e17⟩ : ∃ z, z = (hR h this 13) := ⟨_, rfl⟩; replace hf := lt_i hf r14 e17
      replace hf := nn_i hf; obtain ⟨a14, e18, hf⟩ := hf
      replace hf := tg_i hf; obtain ⟨t19, hf⟩ := hf
      replace hf := (ix_i hf).2
      obtain ⟨h17, e20⟩ : ∃ z, z = (sI h a14 (Int32.toNatClampNeg x4) ((hI h this 10) + 1)) := ⟨_, rfl⟩; replace hf := lt_i hf h17 e20
      have F21 := FrC.sI F0 ((fun b hb => F0.1 _ _ b P_this (e17.symm.trans hb)) _ e18) t19 (Or.inr (by decide)) e20
      exact pX10_finish_b47_fr t1 PE P_this P_p1 F21 hf
set_option maxRecDepth 10000 in
set_option maxHeartbeats 2000000 in
theorem pX10_flip_fr {P : Nat → Prop} {g : MT} {h : CT} {this : Nat} {h9 : CT} (hc : Cl P h) (P_this : P this) (hf : pX10_flip g h this = some h9) : FrC P [(9, 0), (9, 11), (9, 12)] g h h9 := by
  have F0 : FrC P [(9, 0), (9, 11), (9, 12)] g h h := FrC.rf hc
  unfold pX10_flip at hf
  replace hf := tg_i hf; obtain ⟨t1, hf⟩ := hf
  obtain ⟨h1, e2⟩ : ∃ z, z = (sI h this 12 (pJ9_max_7cf53 (hI h this 12) (hI h this 8))) := ⟨_, rfl⟩; replace hf := lt_i hf h1 e2
  have F3 := FrC.sI F0 P_this t1 (Or.inl (by decide)) e2
  obtain ⟨h2, e4⟩ : ∃ z, z = (sI h1 this 11 ((hI h1 this 8) + 1)) := ⟨_, rfl⟩; replace hf := lt_i hf h2 e4
  have F5 := FrC.sI F3 P_this t1 (Or.inl (by decide)) e4
  replace hf := bd_i hf; obtain ⟨h3, q6, hf⟩ := hf
  have F7 := FrC.trans F5 (pX10_note_fr F5.1 P_this q6) (by decide)
  cases hf
  exact F7
set_option maxRecDepth 10000 in
set_option maxHeartbeats 2000000 in
theorem pX10_count_fr {P : Nat → Prop} {g : MT} {h : CT} {this : Nat} {p1 : Int32} {h9 : CT} (hc : Cl P h) (P_this : P this) (hf : pX10_count g h this p1 = some h9) : FrC P [(9, 0), (9, 9), (9, 12), (20, 1000)] g h h9 := by
  have F0 : FrC P [(9, 0), (9, 9), (9, 12), (20, 1000)] g h h := FrC.rf hc
  unfold pX10_count at hf
  replace hf := tg_i hf; obtain ⟨t1, hf⟩ := hf
  obtain ⟨h1, e2⟩ : ∃ z, z = (sI h this 12 (pJ9_max_7cf53 (hI h this 12) (hI h this 8))) := ⟨_, rfl⟩; replace hf := lt_i hf h1 e2
  have F3 := FrC.sI F0 P_this t1 (Or.inl (by decide)) e2
  obtain ⟨h2, e4⟩ : ∃ z, z = (sI h1 this 9 ((hI h1 this 8) + 1)) := ⟨_, rfl⟩; replace hf := lt_i hf h2 e4
  have F5 := FrC.sI F3 P_this t1 (Or.inl (by decide)) e4
  replace hf := bd_i hf; obtain ⟨h3, q6, hf⟩ := hf
  have F7 := FrC.trans F5 (pX10_endAt_fr F5.1 P_this q6) (by decide)
  cases hf
  exact F7
set_option maxRecDepth 10000 in
set_option maxHeartbeats 2000000 in
theorem pX10_fold_b3_fr {P : Nat → Prop} {g : MT} {this : Nat} {p1 : Int32} {p2 : Nat} {p3 : Int32} {p4 : Int32} {k3 : Int32 → CT → Option CT} {l5 : Int32} {h : CT} {h0 : CT} {h9 : CT} (t0 : gT g this = 9) (P_this : P this) (P_p2 : P p2) (hk3 : ∀ (v0 : Int32) (v1 : CT), FrC P [(9, 0), (9, 9), (20, 1000)] g h0 v1 → k3 v0 v1 = some h9 → FrC P [(9, 0), (9, 9), (20, 1000)] g h0 h9) (F0 : FrC P [(9, 0), (9, 9), (20, 1000)] g h0 h) (hf : pX10_fold_b3 g this p1 p2 p3 p4 k3 l5 h = some h9) : FrC P [(9, 0), (9, 9), (20, 1000)] g h0 h9 := by
  unfold pX10_fold_b3 at hf
  by_cases c1 : p3 ≤ l5
  · rw [if_pos c1] at hf
    obtain ⟨h2, e2⟩ : ∃ z, z = (sI h this 9 ((hI h this 8) + (3 * p4))) := ⟨_, rfl⟩; replace hf := lt_i hf h2 e2
    have F3 := FrC.sI F0 P_this t0 (Or.inl (by decide)) e2
    replace hf := bd_i hf; obtain ⟨h3, q4, hf⟩ := hf
    have F5 := FrC.trans F3 (pX10_endAt_fr F3.1 P_this q4) (by decide)
    cases hf
    exact F5
  · rw [if_neg c1] at hf
    replace hf := tg_i hf; obtain ⟨t6, hf⟩ := hf
    replace hf := bd_i hf; obtain ⟨h6, q7, hf⟩ := hf
    have F8 := FrC.trans F0 (pX10_readNow_fr F0.1 P_this q7) (by decide)
    obtain ⟨x8, e9⟩ : ∃ z, z = (l5 + 1) := ⟨_, rfl⟩; replace hf := lt_i hf x8 e9
    exact hk3 _ _ F8 hf
set_option maxRecDepth 10000 in
set_option maxHeartbeats 2000000 in
theorem pX10_fold_l3_fr {P : Nat → Prop} {g : MT} {this : Nat} {p1 : Int32} {p2 : Nat} {p3 : Int32} {p4 : Int32} {h0 : CT} {h9 : CT} (t0 : gT g this = 9) (P_this : P this) (P_p2 : P p2) : ∀ (n : Nat) (v1 : Int32) (v2 : CT), FrC P [(9, 0), (9, 9), (20, 1000)] g h0 v2 → pX10_fold_l3 g this p1 p2 p3 p4 n v1 v2 = some h9 → FrC P [(9, 0), (9, 9), (20, 1000)] g h0 h9 := by
  intro n
  induction n with
  | zero => intro v1 v2 F0 hf; cases hf
  | succ n ih => intro v1 v2 F0 hf; exact pX10_fold_b3_fr t0 P_this P_p2 ih F0 hf
set_option maxRecDepth 10000 in
set_option maxHeartbeats 2000000 in
theorem pX10_fold_fr {P : Nat → Prop} {g : MT} {h : CT} {this : Nat} {p1 : Int32} {p2 : Nat} {p3 : Int32} {p4 : Int32} {h9 : CT} (hc : Cl P h) (P_this : P this) (P_p2 : P p2) (hf : pX10_fold g h this p1 p2 p3 p4 = some h9) : FrC P [(9, 0), (9, 9), (20, 1000)] g h h9 := by
  have F0 : FrC P [(9, 0), (9, 9), (20, 1000)] g h h := FrC.rf hc
  unfold pX10_fold at hf
  replace hf := tg_i hf; obtain ⟨t1, hf⟩ := hf
  exact pX10_fold_l3_fr t1 P_this P_p2 _ _ _ F0 hf
set_option maxRecDepth 10000 in
set_option maxHeartbeats 2000000 in
theorem pX10_stallsAlone_b19_fr {P : Nat → Prop} {g : MT} {this : Nat} {p1 : Int32} {p2 : Int32} {p3 : Int32} {p4 : Int32} {p5 : Int32} {k19 : Int32 → Int32 → CT → Option ((Int32) × CT)} {l6 : Int32} {l7 : Int32} {h : CT} {h0 : CT} {r9 : Int32} {h9 : CT} (t0 : gT g this = 9) (P_this : P this) (hk19 : ∀ (v0 : Int32) (v1 : Int32) (v2 : CT), FrC P [(9, 1), (20, 1000)] g h0 v2 → k19 v0 v1 v2 = some (r9, h9) → FrC P [(9, 1), (20, 1000)] g h0 h9) (F0 : FrC P [(9, 1), (20, 1000)] g h0 h) (hf : pX10_stallsAlone_b19 g this p1 p2 p3 p4 p5 k19 l6 l7 h = some (r9, h9)) : FrC P [(9, 1), (20, 1000)] g h0 h9 := by
  unfold pX10_stallsAlone_b19 at hf
  by_cases c1 : p3 ≤ l7
  · rw [if_pos c1] at hf
    cases hf
    exact F0
  · rw [if_neg c1] at hf
    by_cases c2 : p4 ≤ 0
    · rw [if_pos c2] at hf
      cases hf
      exact F0
    · rw [if_neg c2] at hf
      replace hf := (dvI_i hf).2
      replace hf := bd2_i hf; obtain ⟨x6, h4, q3, hf⟩ := hf
      have F4 := FrC.trans F0 (pX10_throughBank_fr F0.1 P_this q3) (by decide)
      obtain ⟨x7, e5⟩ : ∃ z, z = (x6 + 1) := ⟨_, rfl⟩; replace hf := lt_i hf x7 e5
      obtain ⟨x8, e6⟩ : ∃ z, z = (l7 + 1) := ⟨_, rfl⟩; replace hf := lt_i hf x8 e6
      exact hk19 _ _ _ F4 hf
set_option maxRecDepth 10000 in
set_option maxHeartbeats 2000000 in
theorem pX10_stallsAlone_l19_fr {P : Nat → Prop} {g : MT} {this : Nat} {p1 : Int32} {p2 : Int32} {p3 : Int32} {p4 : Int32} {p5 : Int32} {h0 : CT} {r9 : Int32} {h9 : CT} (t0 : gT g this = 9) (P_this : P this) : ∀ (n : Nat) (v1 : Int32) (v2 : Int32) (v3 : CT), FrC P [(9, 1), (20, 1000)] g h0 v3 → pX10_stallsAlone_l19 g this p1 p2 p3 p4 p5 n v1 v2 v3 = some (r9, h9) → FrC P [(9, 1), (20, 1000)] g h0 h9 := by
  intro n
  induction n with
  | zero => intro v1 v2 v3 F0 hf; cases hf
  | succ n ih => intro v1 v2 v3 F0 hf; exact pX10_stallsAlone_b19_fr t0 P_this ih F0 hf
set_option maxRecDepth 10000 in
set_option maxHeartbeats 2000000 in
theorem pX10_stallsAlone_fr {P : Nat → Prop} {g : MT} {h : CT} {this : Nat} {p1 : Int32} {p2 : Int32} {p3 : Int32} {p4 : Int32} {p5 : Int32} {r9 : Int32} {h9 : CT} (hc : Cl P h) (P_this : P this) (hf : pX10_stallsAlone g h this p1 p2 p3 p4 p5 = some (r9, h9)) : FrC P [(9, 1), (20, 1000)] g h h9 := by
  have F0 : FrC P [(9, 1), (20, 1000)] g h h := FrC.rf hc
  unfold pX10_stallsAlone at hf
  replace hf := tg_i hf; obtain ⟨t1, hf⟩ := hf
  obtain ⟨r1, e2⟩ : ∃ z, z = (hR h this 16) := ⟨_, rfl⟩; replace hf := lt_i hf r1 e2
  replace hf := nn_i hf; obtain ⟨a1, e3, hf⟩ := hf
  replace hf := bd_i hf; obtain ⟨h2, q4, hf⟩ := hf
  have F5 := FrC.trans F0 (pJ7_fill_53178_fr F0.1 ((fun b hb => F0.1 _ _ b P_this (e2.symm.trans hb)) _ e3) q4) (by decide)
  obtain ⟨h4, e6⟩ : ∃ z, z = (sI h2 this 1 0) := ⟨_, rfl⟩; replace hf := lt_i hf h4 e6
  have F7 := FrC.sI F5 P_this t1 (Or.inl (by decide)) e6
  exact pX10_stallsAlone_l19_fr t1 P_this _ _ _ _ F7 hf
set_option maxRecDepth 10000 in
set_option maxHeartbeats 2000000 in
theorem pX3_copyFrom_b2_fr {P : Nat → Prop} {g : MT} {this : Nat} {p1 : Nat} {k2 : Int32 → CT → Option CT} {l2 : Int32} {h : CT} {h0 : CT} {h9 : CT} (t0 : gT g this = 3) (P_this : P this) (P_p1 : P p1) (hk2 : ∀ (v0 : Int32) (v1 : CT), FrC P [(3, 4), (3, 5), (3, 6), (3, 7), (3, 6008), (22, 5000), (24, 1000)] g h0 v1 → k2 v0 v1 = some h9 → FrC P [(3, 4), (3, 5), (3, 6), (3, 7), (3, 6008), (22, 5000), (24, 1000)] g h0 h9) (F0 : FrC P [(3, 4), (3, 5), (3, 6), (3, 7), (3, 6008), (22, 5000), (24, 1000)] g h0 h) (hf : pX3_copyFrom_b2 g this p1 k2 l2 h = some h9) : FrC P [(3, 4), (3, 5), (3, 6), (3, 7), (3, 6008), (22, 5000), (24, 1000)] g h0 h9 := by
  unfold pX3_copyFrom_b2 at hf
  by_cases c1 : 6 ≤ l2
  · rw [if_pos c1] at hf
    obtain ⟨r2, e2⟩ : ∃ z, z = (hR h this 2) := ⟨_, rfl⟩; replace hf := lt_i hf r2 e2
    replace hf := tg_i hf; obtain ⟨t3, hf⟩ := hf
    obtain ⟨r4, e4⟩ : ∃ z, z = (hR h p1 2) := ⟨_, rfl⟩; replace hf := lt_i hf r4 e4
    replace hf := nn_i hf; obtain ⟨a2, e5, hf⟩ := hf
    replace hf := tg_i hf; obtain ⟨t6, hf⟩ := hf
    replace hf := nn_i hf; obtain ⟨a4, e7, hf⟩ := hf
    replace hf := bd_i hf; obtain ⟨h6, q8, hf⟩ := hf
    have F9 := FrC.trans F0 (pX8_copyFrom_fr F0.1 ((fun b hb => F0.1 _ _ b P_this (e2.symm.trans hb)) _ e5) ((fun b hb => F0.1 _ _ b P_p1 (e4.symm.trans hb)) _ e7) q8) (by decide)
    obtain ⟨r8, e10⟩ : ∃ z, z = (hR h6 this 3) := ⟨_, rfl⟩; replace hf := lt_i hf r8 e10
    obtain ⟨r9, e11⟩ : ∃ z, z = (hR h6 p1 3) := ⟨_, rfl⟩; replace hf := lt_i hf r9 e11
    replace hf := nn_i hf; obtain ⟨a8, e12, hf⟩ := hf
    replace hf := tg_i hf; obtain ⟨t13, hf⟩ := hf
    replace hf := nn_i hf; obtain ⟨a9, e14, hf⟩ := hf
    replace hf := bd_i hf; obtain ⟨h11, q15, hf⟩ := hf
    have F16 := FrC.trans F9 (pX8_copyFrom_fr F9.1 ((fun b hb => F9.1 _ _ b P_this (e10.symm.trans hb)) _ e12) ((fun b hb => F9.1 _ _ b P_p1 (e11.symm.trans hb)) _ e14) q15) (by decide)
    obtain ⟨h13, e17⟩ : ∃ z, z = (sI h11 this 4 (hI h11 p1 4)) := ⟨_, rfl⟩; replace hf := lt_i hf h13 e17
    have F18 := FrC.sI F16 P_this t0 (Or.inl (by decide)) e17
    obtain ⟨h14, e19⟩ : ∃ z, z = (sI h13 this 5 (hI h13 p1 5)) := ⟨_, rfl⟩; replace hf := lt_i hf h14 e19
    have F20 := FrC.sI F18 P_this t0 (Or.inl (by decide)) e19
    obtain ⟨h15, e21⟩ : ∃ z, z = (sI h14 this 6 (hI h14 p1 6)) := ⟨_, rfl⟩; replace hf := lt_i hf h15 e21
    have F22 := FrC.sI F20 P_this t0 (Or.inl (by decide)) e21
    obtain ⟨h16, e23⟩ : ∃ z, z = (sI h15 this 7 (hI h15 p1 7)) := ⟨_, rfl⟩; replace hf := lt_i hf h16 e23
    have F24 := FrC.sI F22 P_this t0 (Or.inl (by decide)) e23
    obtain ⟨r17, e25⟩ : ∃ z, z = (hR h16 p1 8) := ⟨_, rfl⟩; replace hf := lt_i hf r17 e25
    obtain ⟨h18, e26⟩ : ∃ z, z = (sR h16 this 8 r17) := ⟨_, rfl⟩; replace hf := lt_i hf h18 e26
    have F27 := FrC.sR F24 P_this t0 (Or.inl (by decide)) (fun b hb => F24.1 _ _ b P_p1 (e25.symm.trans hb)) e26
    cases hf
    exact F27
  · rw [if_neg c1] at hf
    obtain ⟨r19, e28⟩ : ∃ z, z = (hR h this 1) := ⟨_, rfl⟩; replace hf := lt_i hf r19 e28
    replace hf := tg_i hf; obtain ⟨t29, hf⟩ := hf
    obtain ⟨r21, e30⟩ : ∃ z, z = (hR h p1 1) := ⟨_, rfl⟩; replace hf := lt_i hf r21 e30
    replace hf := nn_i hf; obtain ⟨a21, e31, hf⟩ := hf
    replace hf := tg_i hf; obtain ⟨t32, hf⟩ := hf
    replace hf := (ix_i hf).2
    replace hf := nn_i hf; obtain ⟨a19, e33, hf⟩ := hf
    replace hf := tg_i hf; obtain ⟨t34, hf⟩ := hf
    replace hf := (ix_i hf).2
    obtain ⟨h26, e35⟩ : ∃ z, z = (sI h a19 (Int32.toNatClampNeg l2) (vp_nar .boolean (hI h a21 (Int32.toNatClampNeg l2)))) := ⟨_, rfl⟩; replace hf := lt_i hf h26 e35
    have F36 := FrC.sI F0 ((fun b hb => F0.1 _ _ b P_this (e28.symm.trans hb)) _ e33) t34 (Or.inr (by decide)) e35
    obtain ⟨r27, e37⟩ : ∃ z, z = (hR h26 this 0) := ⟨_, rfl⟩; replace hf := lt_i hf r27 e37
    replace hf := nn_i hf; obtain ⟨a27, e38, hf⟩ := hf
    replace hf := tg_i hf; obtain ⟨t39, hf⟩ := hf
    replace hf := (ix_i hf).2
    obtain ⟨r30, e40⟩ : ∃ z, z = (hR h26 a27 (Int32.toNatClampNeg l2)) := ⟨_, rfl⟩; replace hf := lt_i hf r30 e40
    obtain ⟨r31, e41⟩ : ∃ z, z = (hR h26 p1 0) := ⟨_, rfl⟩; replace hf := lt_i hf r31 e41
    replace hf := nn_i hf; obtain ⟨a31, e42, hf⟩ := hf
    replace hf := tg_i hf; obtain ⟨t43, hf⟩ := hf
    replace hf := (ix_i hf).2
    obtain ⟨r34, e44⟩ : ∃ z, z = (hR h26 a31 (Int32.toNatClampNeg l2)) := ⟨_, rfl⟩; replace hf := lt_i hf r34 e44
    replace hf := nn_i hf; obtain ⟨a30, e45, hf⟩ := hf
    replace hf := tg_i hf; obtain ⟨t46, hf⟩ := hf
    replace hf := nn_i hf; obtain ⟨a34, e47, hf⟩ := hf
    replace hf := bd_i hf; obtain ⟨h36, q48, hf⟩ := hf
    have F49 := FrC.trans F36 (pX8_copyFrom_fr F36.1 ((fun b hb => F36.1 _ _ b ((fun b hb => F36.1 _ _ b P_this (e37.symm.trans hb)) _ e38) (e40.symm.trans hb)) _ e45) ((fun b hb => F36.1 _ _ b ((fun b hb => F36.1 _ _ b P_p1 (e41.symm.trans hb)) _ e42) (e44.symm.trans hb)) _ e47) q48) (by decide)
    obtain ⟨x38, e50⟩ : ∃ z, z = (l2 + 1) := ⟨_, rfl⟩; replace hf := lt_i hf x38 e50
    exact hk2 _ _ F49 hf
set_option maxRecDepth 10000 in
set_option maxHeartbeats 2000000 in
theorem pX3_copyFrom_l2_fr {P : Nat → Prop} {g : MT} {this : Nat} {p1 : Nat} {h0 : CT} {h9 : CT} (t0 : gT g this = 3) (P_this : P this) (P_p1 : P p1) : ∀ (n : Nat) (v1 : Int32) (v2 : CT), FrC P [(3, 4), (3, 5), (3, 6), (3, 7), (3, 6008), (22, 5000), (24, 1000)] g h0 v2 → pX3_copyFrom_l2 g this p1 n v1 v2 = some h9 → FrC P [(3, 4), (3, 5), (3, 6), (3, 7), (3, 6008), (22, 5000), (24, 1000)] g h0 h9 := by
  intro n
  induction n with
  | zero => intro v1 v2 F0 hf; cases hf
  | succ n ih => intro v1 v2 F0 hf; exact pX3_copyFrom_b2_fr t0 P_this P_p1 ih F0 hf
set_option maxRecDepth 10000 in
set_option maxHeartbeats 2000000 in
theorem pX3_copyFrom_fr {P : Nat → Prop} {g : MT} {h : CT} {this : Nat} {p1 : Nat} {h9 : CT} (hc : Cl P h) (P_this : P this) (P_p1 : P p1) (hf : pX3_copyFrom g h this p1 = some h9) : FrC P [(3, 4), (3, 5), (3, 6), (3, 7), (3, 6008), (22, 5000), (24, 1000)] g h h9 := by
  have F0 : FrC P [(3, 4), (3, 5), (3, 6), (3, 7), (3, 6008), (22, 5000), (24, 1000)] g h h := FrC.rf hc
  unfold pX3_copyFrom at hf
  replace hf := tg_i hf; obtain ⟨t1, hf⟩ := hf
  exact pX3_copyFrom_l2_fr t1 P_this P_p1 _ _ _ F0 hf
set_option maxRecDepth 10000 in
set_option maxHeartbeats 2000000 in
theorem pX3_land_b36_fr {P : Nat → Prop} {g : MT} {this : Nat} {p1 : Int32} {p2 : Int32} {p3 : Nat} {h : CT} {h0 : CT} {h9 : CT} (t0 : gT g this = 3) (P_this : P this) (P_p3 : P p3) (F0 : FrC P [(22, 5000), (24, 1000)] g h0 h) (hf : pX3_land_b36 g this p1 p2 p3 h = some h9) : FrC P [(22, 5000), (24, 1000)] g h0 h9 := by
  unfold pX3_land_b36 at hf
  obtain ⟨r1, e1⟩ : ∃ z, z = (hR h this 0) := ⟨_, rfl⟩; replace hf := lt_i hf r1 e1
  replace hf := nn_i hf; obtain ⟨a1, e2, hf⟩ := hf
  replace hf := tg_i hf; obtain ⟨t3, hf⟩ := hf
  replace hf := (ix_i hf).2
  obtain ⟨r4, e4⟩ : ∃ z, z = (hR h a1 (Int32.toNatClampNeg p1)) := ⟨_, rfl⟩; replace hf := lt_i hf r4 e4
  replace hf := nn_i hf; obtain ⟨a4, e5, hf⟩ := hf
  replace hf := tg_i hf; obtain ⟨t6, hf⟩ := hf
  replace hf := bd_i hf; obtain ⟨h6, q7, hf⟩ := hf
  have F8 := FrC.trans F0 (pX8_keep_fr F0.1 ((fun b hb => F0.1 _ _ b ((fun b hb => F0.1 _ _ b P_this (e1.symm.trans hb)) _ e2) (e4.symm.trans hb)) _ e5) P_p3 q7) (by decide)
  cases hf
  exact F8
set_option maxRecDepth 10000 in
set_option maxHeartbeats 2000000 in
theorem pX3_land_fr {P : Nat → Prop} {g : MT} {h : CT} {this : Nat} {p1 : Int32} {p2 : Int32} {p3 : Nat} {h9 : CT} (hc : Cl P h) (P_this : P this) (P_p3 : P p3) (hf : pX3_land g h this p1 p2 p3 = some h9) : FrC P [(22, 5000), (24, 1000)] g h h9 := by
  have F0 : FrC P [(22, 5000), (24, 1000)] g h h := FrC.rf hc
  unfold pX3_land at hf
  replace hf := tg_i hf; obtain ⟨t1, hf⟩ := hf
  by_cases c2 : p1 < 0
  · rw [if_pos c2] at hf
    cases hf
    exact F0
  · rw [if_neg c2] at hf
    by_cases c3 : p1 < 6
    · rw [if_pos c3] at hf
      obtain ⟨r3, e4⟩ : ∃ z, z = (hR h this 1) := ⟨_, rfl⟩; replace hf := lt_i hf r3 e4
      replace hf := nn_i hf; obtain ⟨a3, e5, hf⟩ := hf
      replace hf := tg_i hf; obtain ⟨t6, hf⟩ := hf
      replace hf := (ix_i hf).2
      by_cases c7 : (hI h a3 (Int32.toNatClampNeg p1)) = 0
      · rw [if_pos c7] at hf
        obtain ⟨r7, e8⟩ : ∃ z, z = (hR h this 0) := ⟨_, rfl⟩; replace hf := lt_i hf r7 e8
        replace hf := nn_i hf; obtain ⟨a7, e9, hf⟩ := hf
        replace hf := tg_i hf; obtain ⟨t10, hf⟩ := hf
        replace hf := (ix_i hf).2
        obtain ⟨r10, e11⟩ : ∃ z, z = (hR h a7 (Int32.toNatClampNeg p1)) := ⟨_, rfl⟩; replace hf := lt_i hf r10 e11
        replace hf := nn_i hf; obtain ⟨a10, e12, hf⟩ := hf
        replace hf := tg_i hf; obtain ⟨t13, hf⟩ := hf
        replace hf := bd_i hf; obtain ⟨h12, q14, hf⟩ := hf
        have F15 := FrC.trans F0 (pX8_clear_fr F0.1 ((fun b hb => F0.1 _ _ b ((fun b hb => F0.1 _ _ b P_this (e8.symm.trans hb)) _ e9) (e11.symm.trans hb)) _ e12) q14) (by decide)
        obtain ⟨r14, e16⟩ : ∃ z, z = (hR h12 this 1) := ⟨_, rfl⟩; replace hf := lt_i hf r14 e16
        replace hf := nn_i hf; obtain ⟨a14, e17, hf⟩ := hf
        replace hf := tg_i hf; obtain ⟨t18, hf⟩ := hf
        replace hf := (ix_i hf).2
        obtain ⟨h17, e19⟩ : ∃ z, z = (sI h12 a14 (Int32.toNatClampNeg p1) (vp_nar .boolean 1)) := ⟨_, rfl⟩; replace hf := lt_i hf h17 e19
        have F20 := FrC.sI F15 ((fun b hb => F15.1 _ _ b P_this (e16.symm.trans hb)) _ e17) t18 (Or.inr (by decide)) e19
        exact pX3_land_b36_fr t1 P_this P_p3 F20 hf
      · rw [if_neg c7] at hf
        exact pX3_land_b36_fr t1 P_this P_p3 F0 hf
    · rw [if_neg c3] at hf
      cases hf
      exact F0
set_option maxRecDepth 10000 in
set_option maxHeartbeats 2000000 in
theorem pX3_fetch_fr {P : Nat → Prop} {g : MT} {h : CT} {this : Nat} {p1 : Int32} {p2 : Int32} {p3 : Nat} {h9 : CT} (hc : Cl P h) (P_this : P this) (P_p3 : P p3) (hf : pX3_fetch g h this p1 p2 p3 = some h9) : FrC P [(4, 1), (4, 4000)] g h h9 := by
  have F0 : FrC P [(4, 1), (4, 4000)] g h h := FrC.rf hc
  unfold pX3_fetch at hf
  replace hf := tg_i hf; obtain ⟨t1, hf⟩ := hf
  by_cases c2 : p1 < 0
  · rw [if_pos c2] at hf
    cases hf
    exact F0
  · rw [if_neg c2] at hf
    by_cases c3 : 6 ≤ p1
    · rw [if_pos c3] at hf
      cases hf
      exact F0
    · rw [if_neg c3] at hf
      obtain ⟨r3, e4⟩ : ∃ z, z = (hR h this 0) := ⟨_, rfl⟩; replace hf := lt_i hf r3 e4
      replace hf := nn_i hf; obtain ⟨a3, e5, hf⟩ := hf
      replace hf := tg_i hf; obtain ⟨t6, hf⟩ := hf
      replace hf := (ix_i hf).2
      obtain ⟨r6, e7⟩ : ∃ z, z = (hR h a3 (Int32.toNatClampNeg p1)) := ⟨_, rfl⟩; replace hf := lt_i hf r6 e7
      replace hf := nn_i hf; obtain ⟨a6, e8, hf⟩ := hf
      replace hf := tg_i hf; obtain ⟨t9, hf⟩ := hf
      replace hf := bd_i hf; obtain ⟨h8, q10, hf⟩ := hf
      have F11 := FrC.trans F0 (pX8_fetch_fr F0.1 ((fun b hb => F0.1 _ _ b ((fun b hb => F0.1 _ _ b P_this (e4.symm.trans hb)) _ e5) (e7.symm.trans hb)) _ e8) P_p3 q10) (by decide)
      cases hf
      exact F11
set_option maxRecDepth 10000 in
set_option maxHeartbeats 2000000 in
theorem pX3_rowAt_fr {P : Nat → Prop} {g : MT} {h : CT} {this : Nat} {p1 : Int32} {r9 : Option Nat} (hc : Cl P h) (P_this : P this) (hf : pX3_rowAt g h this p1 = some r9) : ∀ b, r9 = some b → P b := by
  have F0 : FrC P [] g h h := FrC.rf hc
  unfold pX3_rowAt at hf
  replace hf := tg_i hf; obtain ⟨t1, hf⟩ := hf
  obtain ⟨r1, e2⟩ : ∃ z, z = (hR h this 0) := ⟨_, rfl⟩; replace hf := lt_i hf r1 e2
  by_cases c3 : p1 < 0
  · rw [if_pos c3] at hf
    replace hf := nn_i hf; obtain ⟨a1, e4, hf⟩ := hf
    replace hf := tg_i hf; obtain ⟨t5, hf⟩ := hf
    replace hf := (ix_i hf).2
    obtain ⟨r5, e6⟩ : ∃ z, z = (hR h a1 (Int32.toNatClampNeg 0)) := ⟨_, rfl⟩; replace hf := lt_i hf r5 e6
    cases hf
    exact (fun b hb => F0.1 _ _ b ((fun b hb => F0.1 _ _ b P_this (e2.symm.trans hb)) _ e4) (e6.symm.trans hb))
  · rw [if_neg c3] at hf
    by_cases c7 : 6 ≤ p1
    · rw [if_pos c7] at hf
      replace hf := nn_i hf; obtain ⟨a1, e8, hf⟩ := hf
      replace hf := tg_i hf; obtain ⟨t9, hf⟩ := hf
      replace hf := (ix_i hf).2
      obtain ⟨r9, e10⟩ : ∃ z, z = (hR h a1 (Int32.toNatClampNeg 0)) := ⟨_, rfl⟩; replace hf := lt_i hf r9 e10
      cases hf
      exact (fun b hb => F0.1 _ _ b ((fun b hb => F0.1 _ _ b P_this (e2.symm.trans hb)) _ e8) (e10.symm.trans hb))
    · rw [if_neg c7] at hf
      replace hf := nn_i hf; obtain ⟨a1, e11, hf⟩ := hf
      replace hf := tg_i hf; obtain ⟨t12, hf⟩ := hf
      replace hf := (ix_i hf).2
      obtain ⟨r12, e13⟩ : ∃ z, z = (hR h a1 (Int32.toNatClampNeg p1)) := ⟨_, rfl⟩; replace hf := lt_i hf r12 e13
      cases hf
      exact (fun b hb => F0.1 _ _ b ((fun b hb => F0.1 _ _ b P_this (e2.symm.trans hb)) _ e11) (e13.symm.trans hb))
set_option maxRecDepth 10000 in
set_option maxHeartbeats 2000000 in
theorem pX3_setBit_b26_fr {P : Nat → Prop} {g : MT} {this : Nat} {p1 : Int32} {p2 : Int32} {s0 : Nat} {s1 : Int32} {h : CT} {h0 : CT} {h9 : CT} (t0 : gT g this = 3) (P_this : P this) (P_s0 : P s0) (F0 : FrC P [(3, 4)] g h0 h) (hf : pX3_setBit_b26 g this p1 p2 s0 s1 h = some h9) : FrC P [(3, 4)] g h0 h9 := by
  unfold pX3_setBit_b26 at hf
  replace hf := tg_i hf; obtain ⟨t1, hf⟩ := hf
  obtain ⟨h2, e2⟩ : ∃ z, z = (sI h s0 4 s1) := ⟨_, rfl⟩; replace hf := lt_i hf h2 e2
  have F3 := FrC.sI F0 P_s0 t1 (Or.inl (by decide)) e2
  cases hf
  exact F3
set_option maxRecDepth 10000 in
set_option maxHeartbeats 2000000 in
theorem pX3_setBit_fr {P : Nat → Prop} {g : MT} {h : CT} {this : Nat} {p1 : Int32} {p2 : Int32} {h9 : CT} (hc : Cl P h) (P_this : P this) (hf : pX3_setBit g h this p1 p2 = some h9) : FrC P [(3, 4)] g h h9 := by
  have F0 : FrC P [(3, 4)] g h h := FrC.rf hc
  unfold pX3_setBit at hf
  replace hf := tg_i hf; obtain ⟨t1, hf⟩ := hf
  by_cases c2 : p2 = 0
  · rw [if_pos c2] at hf
    exact pX3_setBit_b26_fr t1 P_this P_this F0 hf
  · rw [if_neg c2] at hf
    exact pX3_setBit_b26_fr t1 P_this P_this F0 hf
set_option maxRecDepth 10000 in
set_option maxHeartbeats 2000000 in
theorem pX6_isText_b28_fr {P : Nat → Prop} {E : EC} {g : MT} {this : Nat} {p1 : Nat} {k28 : Int32 → CT → Option ((Int32) × CT)} {l2 : Int32} {h : CT} {h0 : CT} {r9 : Int32} {h9 : CT} (t0 : gT g this = 5) (PE : PEc P E) (P_this : P this) (P_p1 : P p1) (hk28 : ∀ (v0 : Int32) (v1 : CT), FrC P [] g h0 v1 → k28 v0 v1 = some (r9, h9) → FrC P [] g h0 h9) (F0 : FrC P [] g h0 h) (hf : pX6_isText_b28 E g this p1 k28 l2 h = some (r9, h9)) : FrC P [] g h0 h9 := by
  unfold pX6_isText_b28 at hf
  replace hf := tg_i hf; obtain ⟨t1, hf⟩ := hf
  replace hf := bd_i hf; obtain ⟨x2, q2, hf⟩ := hf
  by_cases c3 : x2 ≤ l2
  · rw [if_pos c3] at hf
    cases hf
    exact F0
  · rw [if_neg c3] at hf
    obtain ⟨r5, e4⟩ : ∃ z, z = (hR h this 2) := ⟨_, rfl⟩; replace hf := lt_i hf r5 e4
    replace hf := nn_i hf; obtain ⟨a5, e5, hf⟩ := hf
    replace hf := tg_i hf; obtain ⟨t6, hf⟩ := hf
    replace hf := (ix_i hf).2
    replace hf := bd2_i hf; obtain ⟨x10, h8, q7, hf⟩ := hf
    have F8 := FrC.trans F0 (pJ0_charAt_5068e_fr PE F0.1 P_p1 q7) (by decide)
    by_cases c9 : (hI h a5 (Int32.toNatClampNeg ((hI h this 4) + l2))) = x10
    · rw [if_pos c9] at hf
      obtain ⟨x12, e10⟩ : ∃ z, z = (l2 + 1) := ⟨_, rfl⟩; replace hf := lt_i hf x12 e10
      exact hk28 _ _ F8 hf
    · rw [if_neg c9] at hf
      cases hf
      exact F8
set_option maxRecDepth 10000 in
set_option maxHeartbeats 2000000 in
theorem pX6_isText_l28_fr {P : Nat → Prop} {E : EC} {g : MT} {this : Nat} {p1 : Nat} {h0 : CT} {r9 : Int32} {h9 : CT} (t0 : gT g this = 5) (PE : PEc P E) (P_this : P this) (P_p1 : P p1) : ∀ (n : Nat) (v1 : Int32) (v2 : CT), FrC P [] g h0 v2 → pX6_isText_l28 E g this p1 n v1 v2 = some (r9, h9) → FrC P [] g h0 h9 := by
  intro n
  induction n with
  | zero => intro v1 v2 F0 hf; cases hf
  | succ n ih => intro v1 v2 F0 hf; exact pX6_isText_b28_fr t0 PE P_this P_p1 ih F0 hf
set_option maxRecDepth 10000 in
set_option maxHeartbeats 2000000 in
theorem pX6_isText_fr {P : Nat → Prop} {E : EC} {g : MT} {h : CT} {this : Nat} {p1 : Nat} {r9 : Int32} {h9 : CT} (PE : PEc P E) (hc : Cl P h) (P_this : P this) (P_p1 : P p1) (hf : pX6_isText E g h this p1 = some (r9, h9)) : FrC P [] g h h9 := by
  have F0 : FrC P [] g h h := FrC.rf hc
  unfold pX6_isText at hf
  replace hf := tg_i hf; obtain ⟨t1, hf⟩ := hf
  by_cases c2 : (hI h this 6) = 1
  · rw [if_pos c2] at hf
    replace hf := tg_i hf; obtain ⟨t3, hf⟩ := hf
    replace hf := bd_i hf; obtain ⟨x3, q4, hf⟩ := hf
    by_cases c5 : ((hI h this 5) - (hI h this 4)) = x3
    · rw [if_pos c5] at hf
      exact pX6_isText_l28_fr t1 PE P_this P_p1 _ _ _ F0 hf
    · rw [if_neg c5] at hf
      cases hf
      exact F0
  · rw [if_neg c2] at hf
    cases hf
    exact F0
set_option maxRecDepth 10000 in
set_option maxHeartbeats 2000000 in
theorem pX6_opNamed_b9_fr {P : Nat → Prop} {E : EC} {g : MT} {this : Nat} {k9 : Nat → Int32 → Int32 → CT → Option ((Option Nat) × CT)} {l1 : Nat} {l2 : Int32} {l3 : Int32} {h : CT} {h0 : CT} {r9 : Option Nat} {h9 : CT} (t0 : gT g this = 5) (PE : PEc P E) (P_this : P this) (hk9 : ∀ (v0 : Nat) (v1 : Int32) (v2 : Int32) (v3 : CT), P v0 → FrC P [] g h0 v3 → k9 v0 v1 v2 v3 = some (r9, h9) → FrC P [] g h0 h9 ∧ ∀ b, r9 = some b → P b) (P_l1 : P l1) (F0 : FrC P [] g h0 h) (hf : pX6_opNamed_b9 E g this k9 l1 l2 l3 h = some (r9, h9)) : FrC P [] g h0 h9 ∧ ∀ b, r9 = some b → P b := by
  unfold pX6_opNamed_b9 at hf
  by_cases c1 : l2 ≤ l3
  · rw [if_pos c1] at hf
    cases hf
    exact ⟨F0, (fun b hb => by cases hb)⟩
  · rw [if_neg c1] at hf
    replace hf := tg_i hf; obtain ⟨t2, hf⟩ := hf
    replace hf := (ix_i hf).2
    obtain ⟨r4, e3⟩ : ∃ z, z = (hR E.2.1 l1 (Int32.toNatClampNeg l3)) := ⟨_, rfl⟩; replace hf := lt_i hf r4 e3
    replace hf := nn_i hf; obtain ⟨a4, e4, hf⟩ := hf
    replace hf := tg_i hf; obtain ⟨t5, hf⟩ := hf
    obtain ⟨r6, e6⟩ : ∃ z, z = (hR E.2.1 a4 3) := ⟨_, rfl⟩; replace hf := lt_i hf r6 e6
    replace hf := nn_i hf; obtain ⟨a6, e7, hf⟩ := hf
    replace hf := bd2_i hf; obtain ⟨x9, h7, q8, hf⟩ := hf
    have F9 := FrC.trans F0 (pX6_isText_fr PE F0.1 P_this ((fun b hb => PE.2 _ _ b (e6.symm.trans hb)) _ e7) q8) (by decide)
    by_cases c10 : x9 = 0
    · rw [if_pos c10] at hf
      obtain ⟨x11, e11⟩ : ∃ z, z = (l3 + 1) := ⟨_, rfl⟩; replace hf := lt_i hf x11 e11
      exact hk9 _ _ _ _ P_l1 F9 hf
    · rw [if_neg c10] at hf
      cases hf
      exact ⟨F9, (fun b hb => Option.some.inj hb ▸ ((fun b hb => PE.2 _ _ b (e3.symm.trans hb)) _ e4))⟩
set_option maxRecDepth 10000 in
set_option maxHeartbeats 2000000 in
theorem pX6_opNamed_l9_fr {P : Nat → Prop} {E : EC} {g : MT} {this : Nat} {h0 : CT} {r9 : Option Nat} {h9 : CT} (t0 : gT g this = 5) (PE : PEc P E) (P_this : P this) : ∀ (n : Nat) (v1 : Nat) (v2 : Int32) (v3 : Int32) (v4 : CT), P v1 → FrC P [] g h0 v4 → pX6_opNamed_l9 E g this n v1 v2 v3 v4 = some (r9, h9) → FrC P [] g h0 h9 ∧ ∀ b, r9 = some b → P b := by
  intro n
  induction n with
  | zero => intro v1 v2 v3 v4 P_v1 F0 hf; cases hf
  | succ n ih => intro v1 v2 v3 v4 P_v1 F0 hf; exact pX6_opNamed_b9_fr t0 PE P_this ih P_v1 F0 hf
set_option maxRecDepth 10000 in
set_option maxHeartbeats 2000000 in
theorem pX6_opNamed_fr {P : Nat → Prop} {E : EC} {g : MT} {h : CT} {this : Nat} {r9 : Option Nat} {h9 : CT} (PE : PEc P E) (hc : Cl P h) (P_this : P this) (hf : pX6_opNamed E g h this = some (r9, h9)) : FrC P [] g h h9 ∧ ∀ b, r9 = some b → P b := by
  have F0 : FrC P [] g h h := FrC.rf hc
  unfold pX6_opNamed at hf
  replace hf := tg_i hf; obtain ⟨t1, hf⟩ := hf
  replace hf := kR_i hf; obtain ⟨a1, e2, hf⟩ := hf
  replace hf := tg_i hf; obtain ⟨t3, hf⟩ := hf
  obtain ⟨x3, e4⟩ : ∃ z, z = (Int32.ofNat (gL E.2.2 a1)) := ⟨_, rfl⟩; replace hf := lt_i hf x3 e4
  exact pX6_opNamed_l9_fr t1 PE P_this _ _ _ _ _ (PE.1 _ _ (by decide) e2) F0 hf
set_option maxRecDepth 10000 in
set_option maxHeartbeats 2000000 in
theorem pX9_beginStrip_fr {P : Nat → Prop} {g : MT} {h : CT} {this : Nat} {p1 : Int32} {p2 : Nat} {r9 : Int32} {h9 : CT} (hc : Cl P h) (P_this : P this) (P_p2 : P p2) (hf : pX9_beginStrip g h this p1 p2 = some (r9, h9)) : FrC P [(3, 5), (8, 7), (8, 8), (8, 9), (8, 6006)] g h h9 := by
  have F0 : FrC P [(3, 5), (8, 7), (8, 8), (8, 9), (8, 6006)] g h h := FrC.rf hc
  unfold pX9_beginStrip at hf
  replace hf := tg_i hf; obtain ⟨t1, hf⟩ := hf
  replace hf := tg_i hf; obtain ⟨t2, hf⟩ := hf
  by_cases c3 : (hI h p2 7) = 0
  · rw [if_pos c3] at hf
    cases hf
    exact F0
  · rw [if_neg c3] at hf
    obtain ⟨h3, e4⟩ : ∃ z, z = (sR h this 6 (some p2)) := ⟨_, rfl⟩; replace hf := lt_i hf h3 e4
    have F5 := FrC.sR F0 P_this t1 (Or.inl (by decide)) (fun b hb => Option.some.inj hb ▸ P_p2) e4
    obtain ⟨h4, e6⟩ : ∃ z, z = (sI h3 this 7 p1) := ⟨_, rfl⟩; replace hf := lt_i hf h4 e6
    have F7 := FrC.sI F5 P_this t1 (Or.inl (by decide)) e6
    obtain ⟨r5, e8⟩ : ∃ z, z = (hR h4 this 4) := ⟨_, rfl⟩; replace hf := lt_i hf r5 e8
    replace hf := nn_i hf; obtain ⟨a5, e9, hf⟩ := hf
    replace hf := tg_i hf; obtain ⟨t10, hf⟩ := hf
    obtain ⟨h7, e11⟩ : ∃ z, z = (sI h4 this 8 (hI h4 a5 5)) := ⟨_, rfl⟩; replace hf := lt_i hf h7 e11
    have F12 := FrC.sI F7 P_this t1 (Or.inl (by decide)) e11
    obtain ⟨h8, e13⟩ : ∃ z, z = (sI h7 this 9 0) := ⟨_, rfl⟩; replace hf := lt_i hf h8 e13
    have F14 := FrC.sI F12 P_this t1 (Or.inl (by decide)) e13
    obtain ⟨r9, e15⟩ : ∃ z, z = (hR h8 this 4) := ⟨_, rfl⟩; replace hf := lt_i hf r9 e15
    replace hf := nn_i hf; obtain ⟨a9, e16, hf⟩ := hf
    replace hf := tg_i hf; obtain ⟨t17, hf⟩ := hf
    obtain ⟨h11, e18⟩ : ∃ z, z = (sI h8 a9 5 (pJ9_min_7cf53 16 (hI h8 p2 7))) := ⟨_, rfl⟩; replace hf := lt_i hf h11 e18
    have F19 := FrC.sI F14 ((fun b hb => F14.1 _ _ b P_this (e15.symm.trans hb)) _ e16) t17 (Or.inl (by decide)) e18
    cases hf
    exact F19
set_option maxRecDepth 10000 in
set_option maxHeartbeats 2000000 in
theorem pX9_endRound_fr {P : Nat → Prop} {g : MT} {h : CT} {this : Nat} {r9 : Int32} {h9 : CT} (hc : Cl P h) (P_this : P this) (hf : pX9_endRound g h this = some (r9, h9)) : FrC P [(3, 5), (8, 9), (8, 6006), (9, 0), (9, 8)] g h h9 := by
  have F0 : FrC P [(3, 5), (8, 9), (8, 6006), (9, 0), (9, 8)] g h h := FrC.rf hc
  unfold pX9_endRound at hf
  replace hf := tg_i hf; obtain ⟨t1, hf⟩ := hf
  obtain ⟨r1, e2⟩ : ∃ z, z = (hR h this 5) := ⟨_, rfl⟩; replace hf := lt_i hf r1 e2
  replace hf := nn_i hf; obtain ⟨a1, e3, hf⟩ := hf
  replace hf := tg_i hf; obtain ⟨t4, hf⟩ := hf
  replace hf := bd_i hf; obtain ⟨h3, q5, hf⟩ := hf
  have F6 := FrC.trans F0 (pX10_beginEnd_fr F0.1 ((fun b hb => F0.1 _ _ b P_this (e2.symm.trans hb)) _ e3) q5) (by decide)
  obtain ⟨h5, e7⟩ : ∃ z, z = (sI h3 this 9 ((hI h3 this 9) + 16)) := ⟨_, rfl⟩; replace hf := lt_i hf h5 e7
  have F8 := FrC.sI F6 P_this t1 (Or.inl (by decide)) e7
  obtain ⟨r6, e9⟩ : ∃ z, z = (hR h5 this 6) := ⟨_, rfl⟩; replace hf := lt_i hf r6 e9
  replace hf := nn_i hf; obtain ⟨a6, e10, hf⟩ := hf
  replace hf := tg_i hf; obtain ⟨t11, hf⟩ := hf
  by_cases c12 : (hI h5 a6 7) ≤ (hI h5 this 9)
  · rw [if_pos c12] at hf
    obtain ⟨r9, e13⟩ : ∃ z, z = (hR h5 this 6) := ⟨_, rfl⟩; replace hf := lt_i hf r9 e13
    replace hf := nn_i hf; obtain ⟨a9, e14, hf⟩ := hf
    replace hf := tg_i hf; obtain ⟨t15, hf⟩ := hf
    obtain ⟨x11, e16⟩ : ∃ z, z = (hI h5 a9 9) := ⟨_, rfl⟩; replace hf := lt_i hf x11 e16
    obtain ⟨h12, e17⟩ : ∃ z, z = (sI h5 this 9 0) := ⟨_, rfl⟩; replace hf := lt_i hf h12 e17
    have F18 := FrC.sI F8 P_this t1 (Or.inl (by decide)) e17
    obtain ⟨r13, e19⟩ : ∃ z, z = (hR h12 this 4) := ⟨_, rfl⟩; replace hf := lt_i hf r13 e19
    replace hf := nn_i hf; obtain ⟨a13, e20, hf⟩ := hf
    replace hf := tg_i hf; obtain ⟨t21, hf⟩ := hf
    obtain ⟨h15, e22⟩ : ∃ z, z = (sI h12 a13 5 (hI h12 this 8)) := ⟨_, rfl⟩; replace hf := lt_i hf h15 e22
    have F23 := FrC.sI F18 ((fun b hb => F18.1 _ _ b P_this (e19.symm.trans hb)) _ e20) t21 (Or.inl (by decide)) e22
    obtain ⟨h16, e24⟩ : ∃ z, z = (sR h15 this 6 none) := ⟨_, rfl⟩; replace hf := lt_i hf h16 e24
    have F25 := FrC.sR F23 P_this t1 (Or.inl (by decide)) (fun b hb => by cases hb) e24
    cases hf
    exact F25
  · rw [if_neg c12] at hf
    obtain ⟨r17, e26⟩ : ∃ z, z = (hR h5 this 4) := ⟨_, rfl⟩; replace hf := lt_i hf r17 e26
    obtain ⟨r18, e27⟩ : ∃ z, z = (hR h5 this 6) := ⟨_, rfl⟩; replace hf := lt_i hf r18 e27
    replace hf := nn_i hf; obtain ⟨a18, e28, hf⟩ := hf
    replace hf := tg_i hf; obtain ⟨t29, hf⟩ := hf
    replace hf := nn_i hf; obtain ⟨a17, e30, hf⟩ := hf
    replace hf := tg_i hf; obtain ⟨t31, hf⟩ := hf
    obtain ⟨h21, e32⟩ : ∃ z, z = (sI h5 a17 5 (pJ9_min_7cf53 16 ((hI h5 a18 7) - (hI h5 this 9)))) := ⟨_, rfl⟩; replace hf := lt_i hf h21 e32
    have F33 := FrC.sI F8 ((fun b hb => F8.1 _ _ b P_this (e26.symm.trans hb)) _ e30) t31 (Or.inl (by decide)) e32
    cases hf
    exact F33
