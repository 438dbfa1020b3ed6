/-! what functions that make cells leave as it was (written by wip/whole/frames2.py) -/
set_option maxRecDepth 10000 in
set_option maxHeartbeats 2000000 in
theorem pX4_init_fr {P : Nat → Prop} {g : MT} {h : CT} {this : Nat} {g9 : MT} {h9 : CT} (hP : ∀ a, gN g ≤ a → P a) (hc : Cl P h) (P_this : P this) (hf : pX4_init g h this = some (g9, h9)) : FrA P [] g h g9 h9 := by
  have F0 : FrA P [] g h g h := FrA.rf hc
  unfold pX4_init at hf
  replace hf := (gq_i hf).2
  cases hf
  exact F0
set_option maxRecDepth 10000 in
set_option maxHeartbeats 2000000 in
theorem pX8_init_fr {P : Nat → Prop} {g : MT} {h : CT} {this : Nat} {p1 : Int32} {g9 : MT} {h9 : CT} (hP : ∀ a, gN g ≤ a → P a) (hc : Cl P h) (P_this : P this) (hf : pX8_init g h this p1 = some (g9, h9)) : FrA P [(7, 6000), (7, 6001)] g h g9 h9 := by
  have F0 : FrA P [(7, 6000), (7, 6001)] g h g h := FrA.rf hc
  unfold pX8_init at hf
  replace hf := (gq_i hf).2
  obtain ⟨x1, e1⟩ : ∃ z, z = (pJ9_max_7cf53 p1 0) := ⟨_, rfl⟩; replace hf := lt_i hf x1 e1
  replace hf := (na_i hf).2
  replace hf := (gq_i hf).2
  obtain ⟨g2, e2⟩ : ∃ z, z = (gA g 22 (Int32.toNatClampNeg x1)) := ⟨_, rfl⟩; replace hf := lt_i hf g2 e2
  obtain ⟨h3, e3⟩ : ∃ z, z = (hZ h (gN g)) := ⟨_, rfl⟩; replace hf := lt_i hf h3 e3
  have F4 := FrA.alloc F0 hP e2 e3
  obtain ⟨a4, e5⟩ : ∃ z, z = (gN g) := ⟨_, rfl⟩; replace hf := lt_i hf a4 e5
  replace hf := tg_i hf; obtain ⟨t6, hf⟩ := hf
  obtain ⟨h9, e7⟩ : ∃ z, z = (sR h3 this 0 (some a4)) := ⟨_, rfl⟩; replace hf := lt_i hf h9 e7
  have F8 := FrA.sR F4 P_this t6 (Or.inl (by decide)) (fun b hb => Option.some.inj hb ▸ (hP _ (e5 ▸ F0.1))) e7
  replace hf := (na_i hf).2
  replace hf := (gq_i hf).2
  obtain ⟨g10, e9⟩ : ∃ z, z = (gA g2 24 (Int32.toNatClampNeg x1)) := ⟨_, rfl⟩; replace hf := lt_i hf g10 e9
  obtain ⟨h11, e10⟩ : ∃ z, z = (hZ h9 (gN g2)) := ⟨_, rfl⟩; replace hf := lt_i hf h11 e10
  have F11 := FrA.alloc F8 hP e9 e10
  obtain ⟨a12, e12⟩ : ∃ z, z = (gN g2) := ⟨_, rfl⟩; replace hf := lt_i hf a12 e12
  replace hf := tg_i hf; obtain ⟨t13, hf⟩ := hf
  obtain ⟨h17, e14⟩ : ∃ z, z = (sR h11 this 1 (some a12)) := ⟨_, rfl⟩; replace hf := lt_i hf h17 e14
  have F15 := FrA.sR F11 P_this t13 (Or.inl (by decide)) (fun b hb => Option.some.inj hb ▸ (hP _ (e12 ▸ F8.1))) e14
  cases hf
  exact F15
set_option maxRecDepth 10000 in
set_option maxHeartbeats 2000000 in
theorem pX11_init_fr {P : Nat → Prop} {g : MT} {h : CT} {this : Nat} {g9 : MT} {h9 : CT} (hP : ∀ a, gN g ≤ a → P a) (hc : Cl P h) (P_this : P this) (hf : pX11_init g h this = some (g9, h9)) : FrA P [(10, 6003)] g h g9 h9 := by
  have F0 : FrA P [(10, 6003)] g h g h := FrA.rf hc
  unfold pX11_init at hf
  replace hf := (gq_i hf).2
  replace hf := (gq_i hf).2
  obtain ⟨g1, e1⟩ : ∃ z, z = (gA g 21 60) := ⟨_, rfl⟩; replace hf := lt_i hf g1 e1
  obtain ⟨h2, e2⟩ : ∃ z, z = (hZ h (gN g)) := ⟨_, rfl⟩; replace hf := lt_i hf h2 e2
  have F3 := FrA.alloc F0 hP e1 e2
  obtain ⟨a3, e4⟩ : ∃ z, z = (gN g) := ⟨_, rfl⟩; replace hf := lt_i hf a3 e4
  replace hf := tg_i hf; obtain ⟨t5, hf⟩ := hf
  obtain ⟨h7, e6⟩ : ∃ z, z = (sR h2 this 3 (some a3)) := ⟨_, rfl⟩; replace hf := lt_i hf h7 e6
  have F7 := FrA.sR F3 P_this t5 (Or.inl (by decide)) (fun b hb => Option.some.inj hb ▸ (hP _ (e4 ▸ F0.1))) e6
  cases hf
  exact F7
set_option maxRecDepth 10000 in
set_option maxHeartbeats 2000000 in
theorem pX1_init_b44_fr {P : Nat → Prop} {this : Nat} {k18 : UInt64 → Int32 → MT → CT → Option (MT × CT)} {l3 : Int32} {s0 : UInt64} {g : MT} {h : CT} {g0 : MT} {h0 : CT} {g9 : MT} {h9 : CT} (hP : ∀ a, gN g0 ≤ a → P a) (P_this : P this) (hk18 : ∀ (v0 : UInt64) (v1 : Int32) (v2 : MT) (v3 : CT), FrA P [(1, 6002), (22, 5000)] g0 h0 v2 v3 → k18 v0 v1 v2 v3 = some (g9, h9) → FrA P [(1, 6002), (22, 5000)] g0 h0 g9 h9) (F0 : FrA P [(1, 6002), (22, 5000)] g0 h0 g h) (hf : pX1_init_b44 this k18 l3 s0 g h = some (g9, h9)) : FrA P [(1, 6002), (22, 5000)] g0 h0 g9 h9 := by
  unfold pX1_init_b44 at hf
  obtain ⟨x1, e1⟩ : ∃ z, z = (l3 + 1) := ⟨_, rfl⟩; replace hf := lt_i hf x1 e1
  exact hk18 _ _ _ _ F0 hf
set_option maxRecDepth 10000 in
set_option maxHeartbeats 2000000 in
theorem pX1_init_b18_fr {P : Nat → Prop} {this : Nat} {k18 : UInt64 → Int32 → MT → CT → Option (MT × CT)} {l1 : UInt64} {l3 : Int32} {g : MT} {h : CT} {g0 : MT} {h0 : CT} {g9 : MT} {h9 : CT} (hP : ∀ a, gN g0 ≤ a → P a) (P_this : P this) (hk18 : ∀ (v0 : UInt64) (v1 : Int32) (v2 : MT) (v3 : CT), FrA P [(1, 6002), (22, 5000)] g0 h0 v2 v3 → k18 v0 v1 v2 v3 = some (g9, h9) → FrA P [(1, 6002), (22, 5000)] g0 h0 g9 h9) (F0 : FrA P [(1, 6002), (22, 5000)] g0 h0 g h) (hf : pX1_init_b18 this k18 l1 l3 g h = some (g9, h9)) : FrA P [(1, 6002), (22, 5000)] g0 h0 g9 h9 := by
  unfold pX1_init_b18 at hf
  by_cases c1 : 10 ≤ l3
  · rw [if_pos c1] at hf
    cases hf
    exact F0
  · rw [if_neg c1] at hf
    replace hf := tg_i hf; obtain ⟨t2, hf⟩ := hf
    obtain ⟨r3, e3⟩ : ∃ z, z = (hR h this 2) := ⟨_, rfl⟩; replace hf := lt_i hf r3 e3
    replace hf := nn_i hf; obtain ⟨a3, e4, hf⟩ := hf
    replace hf := tg_i hf; obtain ⟨t5, hf⟩ := hf
    replace hf := (ix_i hf).2
    obtain ⟨h6, e6⟩ : ∃ z, z = (sD h a3 (Int32.toNatClampNeg l3) l1) := ⟨_, rfl⟩; replace hf := lt_i hf h6 e6
    have F7 := FrA.sD F0 ((fun b hb => F0.2.2.1 _ _ b P_this (e3.symm.trans hb)) _ e4) t5 (Or.inr (by decide)) e6
    by_cases c8 : 9 ≤ l3
    · rw [if_pos c8] at hf
      exact pX1_init_b44_fr hP P_this hk18 F7 hf
    · rw [if_neg c8] at hf
      exact pX1_init_b44_fr hP P_this hk18 F7 hf
set_option maxRecDepth 10000 in
set_option maxHeartbeats 2000000 in
theorem pX1_init_l18_fr {P : Nat → Prop} {this : Nat} {g0 : MT} {h0 : CT} {g9 : MT} {h9 : CT} (hP : ∀ a, gN g0 ≤ a → P a) (P_this : P this) : ∀ (n : Nat) (v1 : UInt64) (v2 : Int32) (v3 : MT) (v4 : CT), FrA P [(1, 6002), (22, 5000)] g0 h0 v3 v4 → pX1_init_l18 this n v1 v2 v3 v4 = some (g9, h9) → FrA P [(1, 6002), (22, 5000)] g0 h0 g9 h9 := by
  intro n
  induction n with
  | zero => intro v1 v2 v3 v4 F0 hf; cases hf
  | succ n ih => intro v1 v2 v3 v4 F0 hf; exact pX1_init_b18_fr hP P_this ih F0 hf
set_option maxRecDepth 10000 in
set_option maxHeartbeats 2000000 in
theorem pX1_init_fr {P : Nat → Prop} {g : MT} {h : CT} {this : Nat} {g9 : MT} {h9 : CT} (hP : ∀ a, gN g ≤ a → P a) (hc : Cl P h) (P_this : P this) (hf : pX1_init g h this = some (g9, h9)) : FrA P [(1, 6002), (22, 5000)] g h g9 h9 := by
  have F0 : FrA P [(1, 6002), (22, 5000)] g h g h := FrA.rf hc
  unfold pX1_init at hf
  replace hf := (gq_i hf).2
  replace hf := (gq_i hf).2
  obtain ⟨g1, e1⟩ : ∃ z, z = (gA g 22 10) := ⟨_, rfl⟩; replace hf := lt_i hf g1 e1
  obtain ⟨h2, e2⟩ : ∃ z, z = (hZ h (gN g)) := ⟨_, rfl⟩; replace hf := lt_i hf h2 e2
  have F3 := FrA.alloc F0 hP e1 e2
  obtain ⟨a3, e4⟩ : ∃ z, z = (gN g) := ⟨_, rfl⟩; replace hf := lt_i hf a3 e4
  replace hf := tg_i hf; obtain ⟨t5, hf⟩ := hf
  obtain ⟨h7, e6⟩ : ∃ z, z = (sR h2 this 2 (some a3)) := ⟨_, rfl⟩; replace hf := lt_i hf h7 e6
  have F7 := FrA.sR F3 P_this t5 (Or.inl (by decide)) (fun b hb => Option.some.inj hb ▸ (hP _ (e4 ▸ F0.1))) e6
  exact pX1_init_l18_fr hP P_this _ _ _ _ _ F7 hf
set_option maxRecDepth 10000 in
set_option maxHeartbeats 2000000 in
theorem pX2_init_fr {P : Nat → Prop} {g : MT} {h : CT} {this : Nat} {p1 : Nat} {g9 : MT} {h9 : CT} (hP : ∀ a, gN g ≤ a → P a) (hc : Cl P h) (P_this : P this) (P_p1 : P p1) (hf : pX2_init g h this p1 = some (g9, h9)) : FrA P [(2, 6000)] g h g9 h9 := by
  have F0 : FrA P [(2, 6000)] g h g h := FrA.rf hc
  unfold pX2_init at hf
  replace hf := (gq_i hf).2
  replace hf := tg_i hf; obtain ⟨t1, hf⟩ := hf
  obtain ⟨h2, e2⟩ : ∃ z, z = (sR h this 0 (some p1)) := ⟨_, rfl⟩; replace hf := lt_i hf h2 e2
  have F3 := FrA.sR F0 P_this t1 (Or.inl (by decide)) (fun b hb => Option.some.inj hb ▸ P_p1) e2
  cases hf
  exact F3
set_option maxRecDepth 10000 in
set_option maxHeartbeats 2000000 in
theorem pX7_init_fr {P : Nat → Prop} {g : MT} {h : CT} {this : Nat} {g9 : MT} {h9 : CT} (hP : ∀ a, gN g ≤ a → P a) (hc : Cl P h) (P_this : P this) (hf : pX7_init g h this = some (g9, h9)) : FrA P [(6, 6000)] g h g9 h9 := by
  have F0 : FrA P [(6, 6000)] g h g h := FrA.rf hc
  unfold pX7_init at hf
  replace hf := (gq_i hf).2
  replace hf := (gq_i hf).2
  obtain ⟨g1, e1⟩ : ∃ z, z = (gA g 25 30) := ⟨_, rfl⟩; replace hf := lt_i hf g1 e1
  obtain ⟨h2, e2⟩ : ∃ z, z = (hZ h (gN g)) := ⟨_, rfl⟩; replace hf := lt_i hf h2 e2
  have F3 := FrA.alloc F0 hP e1 e2
  obtain ⟨a3, e4⟩ : ∃ z, z = (gN g) := ⟨_, rfl⟩; replace hf := lt_i hf a3 e4
  replace hf := tg_i hf; obtain ⟨t5, hf⟩ := hf
  obtain ⟨h7, e6⟩ : ∃ z, z = (sR h2 this 0 (some a3)) := ⟨_, rfl⟩; replace hf := lt_i hf h7 e6
  have F7 := FrA.sR F3 P_this t5 (Or.inl (by decide)) (fun b hb => Option.some.inj hb ▸ (hP _ (e4 ▸ F0.1))) e6
  cases hf
  exact F7
set_option maxRecDepth 10000 in
set_option maxHeartbeats 2000000 in
theorem pX7_append_fr {P : Nat → Prop} {g : MT} {h : CT} {this : Nat} {p1 : Nat} {r9 : Option Nat} {g9 : MT} {h9 : CT} (hP : ∀ a, gN g ≤ a → P a) (hc : Cl P h) (P_this : P this) (P_p1 : P p1) (hf : pX7_append g h this p1 = some (r9, g9, h9)) : FrA P [(2, 6000), (6, 1), (25, 7000)] g h g9 h9 ∧ ∀ b, r9 = some b → P b := by
  have F0 : FrA P [(2, 6000), (6, 1), (25, 7000)] g h g h := FrA.rf hc
  unfold pX7_append at hf
  replace hf := (gq_i hf).2
  replace hf := (gq_i hf).2
  obtain ⟨g1, e1⟩ : ∃ z, z = (gA g 2 10) := ⟨_, rfl⟩; replace hf := lt_i hf g1 e1
  obtain ⟨h2, e2⟩ : ∃ z, z = (hZ h (gN g)) := ⟨_, rfl⟩; replace hf := lt_i hf h2 e2
  have F3 := FrA.alloc F0 hP e1 e2
  obtain ⟨a3, e4⟩ : ∃ z, z = (gN g) := ⟨_, rfl⟩; replace hf := lt_i hf a3 e4
  replace hf := tg_i hf; obtain ⟨t5, hf⟩ := hf
  replace hf := bd2_i hf; obtain ⟨g7, h8, q6, hf⟩ := hf
  have F7q := pX2_init_fr (fun a ha => hP a (Nat.le_trans F3.1 ha)) F3.2.2.1 (hP _ (e4 ▸ F0.1)) P_p1 q6
  have F7 := FrA.trans F3 F7q (by decide)
  replace hf := (gq_i hf).2
  replace hf := tg_i hf; obtain ⟨t8, hf⟩ := hf
  obtain ⟨r13, e9⟩ : ∃ z, z = (hR h8 this 0) := ⟨_, rfl⟩; replace hf := lt_i hf r13 e9
  replace hf := nn_i hf; obtain ⟨a13, e10, hf⟩ := hf
  replace hf := tg_i hf; obtain ⟨t11, hf⟩ := hf
  by_cases c12 : (Int32.ofNat (gL g7 a13)) ≤ (hI h8 this 1)
  · rw [if_pos c12] at hf
    cases hf
    exact ⟨F7, (fun b hb => Option.some.inj hb ▸ (hP _ (e4 ▸ F0.1)))⟩
  · rw [if_neg c12] at hf
    obtain ⟨r16, e13⟩ : ∃ z, z = (hR h8 this 0) := ⟨_, rfl⟩; replace hf := lt_i hf r16 e13
    replace hf := nn_i hf; obtain ⟨a16, e14, hf⟩ := hf
    replace hf := tg_i hf; obtain ⟨t15, hf⟩ := hf
    replace hf := (ix_i hf).2
    replace hf := tg_i hf; obtain ⟨t16, hf⟩ := hf
    obtain ⟨h20, e17⟩ : ∃ z, z = (sR h8 a16 (Int32.toNatClampNeg (hI h8 this 1)) (some a3)) := ⟨_, rfl⟩; replace hf := lt_i hf h20 e17
    have F18 := FrA.sR F7 ((fun b hb => F7.2.2.1 _ _ b P_this (e13.symm.trans hb)) _ e14) t15 (Or.inr (by decide)) (fun b hb => Option.some.inj hb ▸ (hP _ (e4 ▸ F0.1))) e17
    obtain ⟨h21, e19⟩ : ∃ z, z = (sI h20 this 1 ((hI h20 this 1) + 1)) := ⟨_, rfl⟩; replace hf := lt_i hf h21 e19
    have F20 := FrA.sI F18 P_this t8 (Or.inl (by decide)) e19
    cases hf
    exact ⟨F20, (fun b hb => Option.some.inj hb ▸ (hP _ (e4 ▸ F0.1)))⟩
set_option maxRecDepth 10000 in
set_option maxHeartbeats 2000000 in
theorem pX10_init_fr {P : Nat → Prop} {E : EC} {g : MT} {h : CT} {this : Nat} {g9 : MT} {h9 : CT} (hP : ∀ a, gN g ≤ a → P a) (PE : PEc P E) (hc : Cl P h) (P_this : P this) (hf : pX10_init E g h this = some (g9, h9)) : FrA P [(9, 6006), (9, 6007), (9, 6013), (9, 6014), (9, 6015), (9, 6016)] g h g9 h9 := by
  have F0 : FrA P [(9, 6006), (9, 6007), (9, 6013), (9, 6014), (9, 6015), (9, 6016)] g h g h := FrA.rf hc
  unfold pX10_init at hf
  replace hf := (gq_i hf).2
  replace hf := (gq_i hf).2
  obtain ⟨g1, e1⟩ : ∃ z, z = (gA g 20 30) := ⟨_, rfl⟩; replace hf := lt_i hf g1 e1
  obtain ⟨h2, e2⟩ : ∃ z, z = (hZ h (gN g)) := ⟨_, rfl⟩; replace hf := lt_i hf h2 e2
  have F3 := FrA.alloc F0 hP e1 e2
  obtain ⟨a3, e4⟩ : ∃ z, z = (gN g) := ⟨_, rfl⟩; replace hf := lt_i hf a3 e4
  replace hf := tg_i hf; obtain ⟨t5, hf⟩ := hf
  obtain ⟨h7, e6⟩ : ∃ z, z = (sR h2 this 6 (some a3)) := ⟨_, rfl⟩; replace hf := lt_i hf h7 e6
  have F7 := FrA.sR F3 P_this t5 (Or.inl (by decide)) (fun b hb => Option.some.inj hb ▸ (hP _ (e4 ▸ F0.1))) e6
  replace hf := (gq_i hf).2
  obtain ⟨g8, e8⟩ : ∃ z, z = (gA g1 20 30) := ⟨_, rfl⟩; replace hf := lt_i hf g8 e8
  obtain ⟨h9, e9⟩ : ∃ z, z = (hZ h7 (gN g1)) := ⟨_, rfl⟩; replace hf := lt_i hf h9 e9
  have F10 := FrA.alloc F7 hP e8 e9
  obtain ⟨a10, e11⟩ : ∃ z, z = (gN g1) := ⟨_, rfl⟩; replace hf := lt_i hf a10 e11
  replace hf := tg_i hf; obtain ⟨t12, hf⟩ := hf
  obtain ⟨h14, e13⟩ : ∃ z, z = (sR h9 this 7 (some a10)) := ⟨_, rfl⟩; replace hf := lt_i hf h14 e13
  have F14 := FrA.sR F10 P_this t12 (Or.inl (by decide)) (fun b hb => Option.some.inj hb ▸ (hP _ (e11 ▸ F7.1))) e13
  replace hf := kR_i hf; obtain ⟨a15, e15, hf⟩ := hf
  replace hf := tg_i hf; obtain ⟨t16, hf⟩ := hf
  replace hf := (na_i hf).2
  replace hf := (gq_i hf).2
  obtain ⟨g17, e17⟩ : ∃ z, z = (gA g8 20 (Int32.toNatClampNeg (Int32.ofNat (gL E.2.2 a15)))) := ⟨_, rfl⟩; replace hf := lt_i hf g17 e17
  obtain ⟨h18, e18⟩ : ∃ z, z = (hZ h14 (gN g8)) := ⟨_, rfl⟩; replace hf := lt_i hf h18 e18
  have F19 := FrA.alloc F14 hP e17 e18
  obtain ⟨a19, e20⟩ : ∃ z, z = (gN g8) := ⟨_, rfl⟩; replace hf := lt_i hf a19 e20
  replace hf := tg_i hf; obtain ⟨t21, hf⟩ := hf
  obtain ⟨h24, e22⟩ : ∃ z, z = (sR h18 this 13 (some a19)) := ⟨_, rfl⟩; replace hf := lt_i hf h24 e22
  have F23 := FrA.sR F19 P_this t21 (Or.inl (by decide)) (fun b hb => Option.some.inj hb ▸ (hP _ (e20 ▸ F14.1))) e22
  replace hf := (gq_i hf).2
  obtain ⟨g25, e24⟩ : ∃ z, z = (gA g17 20 96) := ⟨_, rfl⟩; replace hf := lt_i hf g25 e24
  obtain ⟨h26, e25⟩ : ∃ z, z = (hZ h24 (gN g17)) := ⟨_, rfl⟩; replace hf := lt_i hf h26 e25
  have F26 := FrA.alloc F23 hP e24 e25
  obtain ⟨a27, e27⟩ : ∃ z, z = (gN g17) := ⟨_, rfl⟩; replace hf := lt_i hf a27 e27
  replace hf := tg_i hf; obtain ⟨t28, hf⟩ := hf
  obtain ⟨h31, e29⟩ : ∃ z, z = (sR h26 this 14 (some a27)) := ⟨_, rfl⟩; replace hf := lt_i hf h31 e29
  have F30 := FrA.sR F26 P_this t28 (Or.inl (by decide)) (fun b hb => Option.some.inj hb ▸ (hP _ (e27 ▸ F23.1))) e29
  replace hf := (gq_i hf).2
  obtain ⟨g32, e31⟩ : ∃ z, z = (gA g25 20 96) := ⟨_, rfl⟩; replace hf := lt_i hf g32 e31
  obtain ⟨h33, e32⟩ : ∃ z, z = (hZ h31 (gN g25)) := ⟨_, rfl⟩; replace hf := lt_i hf h33 e32
  have F33 := FrA.alloc F30 hP e31 e32
  obtain ⟨a34, e34⟩ : ∃ z, z = (gN g25) := ⟨_, rfl⟩; replace hf := lt_i hf a34 e34
  replace hf := tg_i hf; obtain ⟨t35, hf⟩ := hf
  obtain ⟨h38, e36⟩ : ∃ z, z = (sR h33 this 15 (some a34)) := ⟨_, rfl⟩; replace hf := lt_i hf h38 e36
  have F37 := FrA.sR F33 P_this t35 (Or.inl (by decide)) (fun b hb => Option.some.inj hb ▸ (hP _ (e34 ▸ F30.1))) e36
  replace hf := (gq_i hf).2
  obtain ⟨g39, e38⟩ : ∃ z, z = (gA g32 20 16) := ⟨_, rfl⟩; replace hf := lt_i hf g39 e38
  obtain ⟨h40, e39⟩ : ∃ z, z = (hZ h38 (gN g32)) := ⟨_, rfl⟩; replace hf := lt_i hf h40 e39
  have F40 := FrA.alloc F37 hP e38 e39
  obtain ⟨a41, e41⟩ : ∃ z, z = (gN g32) := ⟨_, rfl⟩; replace hf := lt_i hf a41 e41
  replace hf := tg_i hf; obtain ⟨t42, hf⟩ := hf
  obtain ⟨h45, e43⟩ : ∃ z, z = (sR h40 this 16 (some a41)) := ⟨_, rfl⟩; replace hf := lt_i hf h45 e43
  have F44 := FrA.sR F40 P_this t42 (Or.inl (by decide)) (fun b hb => Option.some.inj hb ▸ (hP _ (e41 ▸ F37.1))) e43
  cases hf
  exact F44
set_option maxRecDepth 10000 in
set_option maxHeartbeats 2000000 in
theorem pX3_init_b15_fr {P : Nat → Prop} {this : Nat} {k15 : Int32 → MT → CT → Option (MT × CT)} {l1 : Int32} {g : MT} {h : CT} {g0 : MT} {h0 : CT} {g9 : MT} {h9 : CT} (hP : ∀ a, gN g0 ≤ a → P a) (P_this : P this) (hk15 : ∀ (v0 : Int32) (v1 : MT) (v2 : CT), FrA P [(3, 5), (3, 6), (3, 7), (3, 6000), (3, 6001), (3, 6002), (3, 6003), (3, 6008), (6, 6000), (7, 6000), (7, 6001), (27, 7000)] g0 h0 v1 v2 → k15 v0 v1 v2 = some (g9, h9) → FrA P [(3, 5), (3, 6), (3, 7), (3, 6000), (3, 6001), (3, 6002), (3, 6003), (3, 6008), (6, 6000), (7, 6000), (7, 6001), (27, 7000)] g0 h0 g9 h9) (F0 : FrA P [(3, 5), (3, 6), (3, 7), (3, 6000), (3, 6001), (3, 6002), (3, 6003), (3, 6008), (6, 6000), (7, 6000), (7, 6001), (27, 7000)] g0 h0 g h) (hf : pX3_init_b15 this k15 l1 g h = some (g9, h9)) : FrA P [(3, 5), (3, 6), (3, 7), (3, 6000), (3, 6001), (3, 6002), (3, 6003), (3, 6008), (6, 6000), (7, 6000), (7, 6001), (27, 7000)] g0 h0 g9 h9 := by
  unfold pX3_init_b15 at hf
  by_cases c1 : 6 ≤ l1
  · rw [if_pos c1] at hf
    replace hf := (gq_i hf).2
    obtain ⟨g2, e2⟩ : ∃ z, z = (gA g 24 6) := ⟨_, rfl⟩; replace hf := lt_i hf g2 e2
    obtain ⟨h3, e3⟩ : ∃ z, z = (hZ h (gN g)) := ⟨_, rfl⟩; replace hf := lt_i hf h3 e3
    have F4 := FrA.alloc F0 hP e2 e3
    obtain ⟨a4, e5⟩ : ∃ z, z = (gN g) := ⟨_, rfl⟩; replace hf := lt_i hf a4 e5
    replace hf := tg_i hf; obtain ⟨t6, hf⟩ := hf
    obtain ⟨h8, e7⟩ : ∃ z, z = (sR h3 this 1 (some a4)) := ⟨_, rfl⟩; replace hf := lt_i hf h8 e7
    have F8 := FrA.sR F4 P_this t6 (Or.inl (by decide)) (fun b hb => Option.some.inj hb ▸ (hP _ (e5 ▸ F0.1))) e7
    replace hf := (gq_i hf).2
    obtain ⟨g9, e9⟩ : ∃ z, z = (gA g2 7 2) := ⟨_, rfl⟩; replace hf := lt_i hf g9 e9
    obtain ⟨h10, e10⟩ : ∃ z, z = (hZ h8 (gN g2)) := ⟨_, rfl⟩; replace hf := lt_i hf h10 e10
    have F11 := FrA.alloc F8 hP e9 e10
    obtain ⟨a11, e12⟩ : ∃ z, z = (gN g2) := ⟨_, rfl⟩; replace hf := lt_i hf a11 e12
    replace hf := tg_i hf; obtain ⟨t13, hf⟩ := hf
    replace hf := bd2_i hf; obtain ⟨g15, h16, q14, hf⟩ := hf
    have F15q := pX8_init_fr (fun a ha => hP a (Nat.le_trans F11.1 ha)) F11.2.2.1 (hP _ (e12 ▸ F8.1)) q14
    have F15 := FrA.trans F11 F15q (by decide)
    replace hf := (gq_i hf).2
    replace hf := tg_i hf; obtain ⟨t16, hf⟩ := hf
    obtain ⟨h21, e17⟩ : ∃ z, z = (sR h16 this 2 (some a11)) := ⟨_, rfl⟩; replace hf := lt_i hf h21 e17
    have F18 := FrA.sR F15 P_this t16 (Or.inl (by decide)) (fun b hb => Option.some.inj hb ▸ (hP _ (e12 ▸ F8.1))) e17
    replace hf := (gq_i hf).2
    obtain ⟨g22, e19⟩ : ∃ z, z = (gA g15 7 2) := ⟨_, rfl⟩; replace hf := lt_i hf g22 e19
    obtain ⟨h23, e20⟩ : ∃ z, z = (hZ h21 (gN g15)) := ⟨_, rfl⟩; replace hf := lt_i hf h23 e20
    have F21 := FrA.alloc F18 hP e19 e20
    obtain ⟨a24, e22⟩ : ∃ z, z = (gN g15) := ⟨_, rfl⟩; replace hf := lt_i hf a24 e22
    replace hf := tg_i hf; obtain ⟨t23, hf⟩ := hf
    replace hf := bd2_i hf; obtain ⟨g28, h29, q24, hf⟩ := hf
    have F25q := pX8_init_fr (fun a ha => hP a (Nat.le_trans F21.1 ha)) F21.2.2.1 (hP _ (e22 ▸ F18.1)) q24
    have F25 := FrA.trans F21 F25q (by decide)
    replace hf := (gq_i hf).2
    replace hf := tg_i hf; obtain ⟨t26, hf⟩ := hf
    obtain ⟨h34, e27⟩ : ∃ z, z = (sR h29 this 3 (some a24)) := ⟨_, rfl⟩; replace hf := lt_i hf h34 e27
    have F28 := FrA.sR F25 P_this t26 (Or.inl (by decide)) (fun b hb => Option.some.inj hb ▸ (hP _ (e22 ▸ F18.1))) e27
    obtain ⟨h35, e29⟩ : ∃ z, z = (sI h34 this 5 16) := ⟨_, rfl⟩; replace hf := lt_i hf h35 e29
    have F30 := FrA.sI F28 P_this t26 (Or.inl (by decide)) e29
    obtain ⟨h36, e31⟩ : ∃ z, z = (sI h35 this 6 8) := ⟨_, rfl⟩; replace hf := lt_i hf h36 e31
    have F32 := FrA.sI F30 P_this t26 (Or.inl (by decide)) e31
    obtain ⟨h37, e33⟩ : ∃ z, z = (sI h36 this 7 4) := ⟨_, rfl⟩; replace hf := lt_i hf h37 e33
    have F34 := FrA.sI F32 P_this t26 (Or.inl (by decide)) e33
    replace hf := (gq_i hf).2
    obtain ⟨g38, e35⟩ : ∃ z, z = (gA g28 6 2) := ⟨_, rfl⟩; replace hf := lt_i hf g38 e35
    obtain ⟨h39, e36⟩ : ∃ z, z = (hZ h37 (gN g28)) := ⟨_, rfl⟩; replace hf := lt_i hf h39 e36
    have F37 := FrA.alloc F34 hP e35 e36
    obtain ⟨a40, e38⟩ : ∃ z, z = (gN g28) := ⟨_, rfl⟩; replace hf := lt_i hf a40 e38
    replace hf := tg_i hf; obtain ⟨t39, hf⟩ := hf
    replace hf := bd2_i hf; obtain ⟨g44, h45, q40, hf⟩ := hf
    have F41q := pX7_init_fr (fun a ha => hP a (Nat.le_trans F37.1 ha)) F37.2.2.1 (hP _ (e38 ▸ F34.1)) q40
    have F41 := FrA.trans F37 F41q (by decide)
    replace hf := (gq_i hf).2
    replace hf := tg_i hf; obtain ⟨t42, hf⟩ := hf
    obtain ⟨h50, e43⟩ : ∃ z, z = (sR h45 this 8 (some a40)) := ⟨_, rfl⟩; replace hf := lt_i hf h50 e43
    have F44 := FrA.sR F41 P_this t42 (Or.inl (by decide)) (fun b hb => Option.some.inj hb ▸ (hP _ (e38 ▸ F34.1))) e43
    cases hf
    exact F44
  · rw [if_neg c1] at hf
    replace hf := tg_i hf; obtain ⟨t45, hf⟩ := hf
    obtain ⟨r52, e46⟩ : ∃ z, z = (hR h this 0) := ⟨_, rfl⟩; replace hf := lt_i hf r52 e46
    replace hf := (gq_i hf).2
    obtain ⟨g53, e47⟩ : ∃ z, z = (gA g 7 2) := ⟨_, rfl⟩; replace hf := lt_i hf g53 e47
    obtain ⟨h54, e48⟩ : ∃ z, z = (hZ h (gN g)) := ⟨_, rfl⟩; replace hf := lt_i hf h54 e48
    have F49 := FrA.alloc F0 hP e47 e48
    obtain ⟨a55, e50⟩ : ∃ z, z = (gN g) := ⟨_, rfl⟩; replace hf := lt_i hf a55 e50
    replace hf := tg_i hf; obtain ⟨t51, hf⟩ := hf
    replace hf := bd2_i hf; obtain ⟨g59, h60, q52, hf⟩ := hf
    have F53q := pX8_init_fr (fun a ha => hP a (Nat.le_trans F49.1 ha)) F49.2.2.1 (hP _ (e50 ▸ F0.1)) q52
    have F53 := FrA.trans F49 F53q (by decide)
    replace hf := (gq_i hf).2
    replace hf := nn_i hf; obtain ⟨a52, e54, hf⟩ := hf
    replace hf := tg_i hf; obtain ⟨t55, hf⟩ := hf
    replace hf := (ix_i hf).2
    replace hf := tg_i hf; obtain ⟨t56, hf⟩ := hf
    obtain ⟨h67, e57⟩ : ∃ z, z = (sR h60 a52 (Int32.toNatClampNeg l1) (some a55)) := ⟨_, rfl⟩; replace hf := lt_i hf h67 e57
    have F58 := FrA.sR F53 ((fun b hb => F0.2.2.1 _ _ b P_this (e46.symm.trans hb)) _ e54) t55 (Or.inr (by decide)) (fun b hb => Option.some.inj hb ▸ (hP _ (e50 ▸ F0.1))) e57
    obtain ⟨x68, e59⟩ : ∃ z, z = (l1 + 1) := ⟨_, rfl⟩; replace hf := lt_i hf x68 e59
    exact hk15 _ _ _ F58 hf
set_option maxRecDepth 10000 in
set_option maxHeartbeats 2000000 in
theorem pX3_init_l15_fr {P : Nat → Prop} {this : Nat} {g0 : MT} {h0 : CT} {g9 : MT} {h9 : CT} (hP : ∀ a, gN g0 ≤ a → P a) (P_this : P this) : ∀ (n : Nat) (v1 : Int32) (v2 : MT) (v3 : CT), FrA P [(3, 5), (3, 6), (3, 7), (3, 6000), (3, 6001), (3, 6002), (3, 6003), (3, 6008), (6, 6000), (7, 6000), (7, 6001), (27, 7000)] g0 h0 v2 v3 → pX3_init_l15 this n v1 v2 v3 = some (g9, h9) → FrA P [(3, 5), (3, 6), (3, 7), (3, 6000), (3, 6001), (3, 6002), (3, 6003), (3, 6008), (6, 6000), (7, 6000), (7, 6001), (27, 7000)] g0 h0 g9 h9 := by
  intro n
  induction n with
  | zero => intro v1 v2 v3 F0 hf; cases hf
  | succ n ih => intro v1 v2 v3 F0 hf; exact pX3_init_b15_fr hP P_this ih F0 hf
set_option maxRecDepth 10000 in
set_option maxHeartbeats 2000000 in
theorem pX3_init_fr {P : Nat → Prop} {g : MT} {h : CT} {this : Nat} {g9 : MT} {h9 : CT} (hP : ∀ a, gN g ≤ a → P a) (hc : Cl P h) (P_this : P this) (hf : pX3_init g h this = some (g9, h9)) : FrA P [(3, 5), (3, 6), (3, 7), (3, 6000), (3, 6001), (3, 6002), (3, 6003), (3, 6008), (6, 6000), (7, 6000), (7, 6001), (27, 7000)] g h g9 h9 := by
  have F0 : FrA P [(3, 5), (3, 6), (3, 7), (3, 6000), (3, 6001), (3, 6002), (3, 6003), (3, 6008), (6, 6000), (7, 6000), (7, 6001), (27, 7000)] g h g h := FrA.rf hc
  unfold pX3_init at hf
  replace hf := (gq_i hf).2
  replace hf := (gq_i hf).2
  obtain ⟨g1, e1⟩ : ∃ z, z = (gA g 27 6) := ⟨_, rfl⟩; replace hf := lt_i hf g1 e1
  obtain ⟨h2, e2⟩ : ∃ z, z = (hZ h (gN g)) := ⟨_, rfl⟩; replace hf := lt_i hf h2 e2
  have F3 := FrA.alloc F0 hP e1 e2
  obtain ⟨a3, e4⟩ : ∃ z, z = (gN g) := ⟨_, rfl⟩; replace hf := lt_i hf a3 e4
  replace hf := tg_i hf; obtain ⟨t5, hf⟩ := hf
  obtain ⟨h7, e6⟩ : ∃ z, z = (sR h2 this 0 (some a3)) := ⟨_, rfl⟩; replace hf := lt_i hf h7 e6
  have F7 := FrA.sR F3 P_this t5 (Or.inl (by decide)) (fun b hb => Option.some.inj hb ▸ (hP _ (e4 ▸ F0.1))) e6
  exact pX3_init_l15_fr hP P_this _ _ _ _ F7 hf
set_option maxRecDepth 10000 in
set_option maxHeartbeats 2000000 in
theorem pX6_init_fr {P : Nat → Prop} {E : EC} {g : MT} {h : CT} {this : Nat} {g9 : MT} {h9 : CT} (hP : ∀ a, gN g ≤ a → P a) (PE : PEc P E) (hc : Cl P h) (P_this : P this) (hf : pX6_init E g h this = some (g9, h9)) : FrA P [(5, 0), (5, 1), (5, 6002), (5, 6009)] g h g9 h9 := by
  have F0 : FrA P [(5, 0), (5, 1), (5, 6002), (5, 6009)] g h g h := FrA.rf hc
  unfold pX6_init at hf
  replace hf := (gq_i hf).2
  replace hf := tg_i hf; obtain ⟨t1, hf⟩ := hf
  obtain ⟨h2, e2⟩ : ∃ z, z = (sI h this 0 (-1)) := ⟨_, rfl⟩; replace hf := lt_i hf h2 e2
  have F3 := FrA.sI F0 P_this t1 (Or.inl (by decide)) e2
  obtain ⟨h3, e4⟩ : ∃ z, z = (sI h2 this 1 (-1)) := ⟨_, rfl⟩; replace hf := lt_i hf h3 e4
  have F5 := FrA.sI F3 P_this t1 (Or.inl (by decide)) e4
  replace hf := (gq_i hf).2
  obtain ⟨g4, e6⟩ : ∃ z, z = (gA g 23 0) := ⟨_, rfl⟩; replace hf := lt_i hf g4 e6
  obtain ⟨h5, e7⟩ : ∃ z, z = (hZ h3 (gN g)) := ⟨_, rfl⟩; replace hf := lt_i hf h5 e7
  have F8 := FrA.alloc F5 hP e6 e7
  obtain ⟨a6, e9⟩ : ∃ z, z = (gN g) := ⟨_, rfl⟩; replace hf := lt_i hf a6 e9
  replace hf := tg_i hf; obtain ⟨t10, hf⟩ := hf
  obtain ⟨h10, e11⟩ : ∃ z, z = (sR h5 this 2 (some a6)) := ⟨_, rfl⟩; replace hf := lt_i hf h10 e11
  have F12 := FrA.sR F8 P_this t10 (Or.inl (by decide)) (fun b hb => Option.some.inj hb ▸ (hP _ (e9 ▸ F5.1))) e11
  replace hf := kR_i hf; obtain ⟨a11, e13, hf⟩ := hf
  obtain ⟨h12, e14⟩ : ∃ z, z = (sR h10 this 9 (some a11)) := ⟨_, rfl⟩; replace hf := lt_i hf h12 e14
  have F15 := FrA.sR F12 P_this t10 (Or.inl (by decide)) (fun b hb => Option.some.inj hb ▸ (PE.1 _ _ (by decide) e13)) e14
  cases hf
  exact F15
set_option maxRecDepth 10000 in
set_option maxHeartbeats 2000000 in
theorem pX9_init_fr {P : Nat → Prop} {g : MT} {h : CT} {this : Nat} {p1 : Nat} {g9 : MT} {h9 : CT} (hP : ∀ a, gN g ≤ a → P a) (hc : Cl P h) (P_this : P this) (P_p1 : P p1) (hf : pX9_init g h this p1 = some (g9, h9)) : FrA P [(7, 6000), (7, 6001), (8, 6000), (8, 6001), (8, 6002), (8, 6003)] g h g9 h9 := by
  have F0 : FrA P [(7, 6000), (7, 6001), (8, 6000), (8, 6001), (8, 6002), (8, 6003)] g h g h := FrA.rf hc
  unfold pX9_init at hf
  replace hf := (gq_i hf).2
  replace hf := tg_i hf; obtain ⟨t1, hf⟩ := hf
  obtain ⟨h2, e2⟩ : ∃ z, z = (sR h this 0 (some p1)) := ⟨_, rfl⟩; replace hf := lt_i hf h2 e2
  have F3 := FrA.sR F0 P_this t1 (Or.inl (by decide)) (fun b hb => Option.some.inj hb ▸ P_p1) e2
  replace hf := (gq_i hf).2
  obtain ⟨g3, e4⟩ : ∃ z, z = (gA g 7 2) := ⟨_, rfl⟩; replace hf := lt_i hf g3 e4
  obtain ⟨h4, e5⟩ : ∃ z, z = (hZ h2 (gN g)) := ⟨_, rfl⟩; replace hf := lt_i hf h4 e5
  have F6 := FrA.alloc F3 hP e4 e5
  obtain ⟨a5, e7⟩ : ∃ z, z = (gN g) := ⟨_, rfl⟩; replace hf := lt_i hf a5 e7
  replace hf := tg_i hf; obtain ⟨t8, hf⟩ := hf
  replace hf := bd2_i hf; obtain ⟨g9, h10, q9, hf⟩ := hf
  have F10q := pX8_init_fr (fun a ha => hP a (Nat.le_trans F6.1 ha)) F6.2.2.1 (hP _ (e7 ▸ F3.1)) q9
  have F10 := FrA.trans F6 F10q (by decide)
  replace hf := (gq_i hf).2
  replace hf := tg_i hf; obtain ⟨t11, hf⟩ := hf
  obtain ⟨h15, e12⟩ : ∃ z, z = (sR h10 this 1 (some a5)) := ⟨_, rfl⟩; replace hf := lt_i hf h15 e12
  have F13 := FrA.sR F10 P_this t11 (Or.inl (by decide)) (fun b hb => Option.some.inj hb ▸ (hP _ (e7 ▸ F3.1))) e12
  replace hf := (gq_i hf).2
  obtain ⟨g16, e14⟩ : ∃ z, z = (gA g9 4 2) := ⟨_, rfl⟩; replace hf := lt_i hf g16 e14
  obtain ⟨h17, e15⟩ : ∃ z, z = (hZ h15 (gN g9)) := ⟨_, rfl⟩; replace hf := lt_i hf h17 e15
  have F16 := FrA.alloc F13 hP e14 e15
  obtain ⟨a18, e17⟩ : ∃ z, z = (gN g9) := ⟨_, rfl⟩; replace hf := lt_i hf a18 e17
  replace hf := tg_i hf; obtain ⟨t18, hf⟩ := hf
  replace hf := bd2_i hf; obtain ⟨g22, h23, q19, hf⟩ := hf
  have F20q := pX4_init_fr (fun a ha => hP a (Nat.le_trans F16.1 ha)) F16.2.2.1 (hP _ (e17 ▸ F13.1)) q19
  have F20 := FrA.trans F16 F20q (by decide)
  replace hf := (gq_i hf).2
  replace hf := tg_i hf; obtain ⟨t21, hf⟩ := hf
  obtain ⟨h28, e22⟩ : ∃ z, z = (sR h23 this 2 (some a18)) := ⟨_, rfl⟩; replace hf := lt_i hf h28 e22
  have F23 := FrA.sR F20 P_this t21 (Or.inl (by decide)) (fun b hb => Option.some.inj hb ▸ (hP _ (e17 ▸ F13.1))) e22
  replace hf := (gq_i hf).2
  obtain ⟨g29, e24⟩ : ∃ z, z = (gA g22 4 2) := ⟨_, rfl⟩; replace hf := lt_i hf g29 e24
  obtain ⟨h30, e25⟩ : ∃ z, z = (hZ h28 (gN g22)) := ⟨_, rfl⟩; replace hf := lt_i hf h30 e25
  have F26 := FrA.alloc F23 hP e24 e25
  obtain ⟨a31, e27⟩ : ∃ z, z = (gN g22) := ⟨_, rfl⟩; replace hf := lt_i hf a31 e27
  replace hf := tg_i hf; obtain ⟨t28, hf⟩ := hf
  replace hf := bd2_i hf; obtain ⟨g35, h36, q29, hf⟩ := hf
  have F30q := pX4_init_fr (fun a ha => hP a (Nat.le_trans F26.1 ha)) F26.2.2.1 (hP _ (e27 ▸ F23.1)) q29
  have F30 := FrA.trans F26 F30q (by decide)
  replace hf := (gq_i hf).2
  replace hf := tg_i hf; obtain ⟨t31, hf⟩ := hf
  obtain ⟨h41, e32⟩ : ∃ z, z = (sR h36 this 3 (some a31)) := ⟨_, rfl⟩; replace hf := lt_i hf h41 e32
  have F33 := FrA.sR F30 P_this t31 (Or.inl (by decide)) (fun b hb => Option.some.inj hb ▸ (hP _ (e27 ▸ F23.1))) e32
  cases hf
  exact F33
set_option maxRecDepth 10000 in
set_option maxHeartbeats 2000000 in
theorem pX12_init_b79_fr {P : Nat → Prop} {E : EC} {this : Nat} {k79 : Int32 → MT → CT → Option (MT × CT)} {l1 : Int32} {g : MT} {h : CT} {g0 : MT} {h0 : CT} {g9 : MT} {h9 : CT} (hP : ∀ a, gN g0 ≤ a → P a) (PE : PEc P E) (P_this : P this) (hk79 : ∀ (v0 : Int32) (v1 : MT) (v2 : CT), FrA P [(1, 6002), (3, 5), (3, 6), (3, 7), (3, 6000), (3, 6001), (3, 6002), (3, 6003), (3, 6008), (5, 0), (5, 1), (5, 6002), (5, 6009), (6, 6000), (7, 6000), (7, 6001), (8, 6000), (8, 6001), (8, 6002), (8, 6003), (9, 6006), (9, 6007), (9, 6013), (9, 6014), (9, 6015), (9, 6016), (10, 6003), (11, 6000), (11, 6001), (11, 6003), (11, 6004), (11, 6005), (11, 6007), (11, 6008), (11, 6011), (11, 6012), (11, 6013), (11, 6014), (11, 6015), (11, 6016), (11, 6017), (11, 6018), (22, 5000), (26, 7000), (27, 7000), (28, 7000)] g0 h0 v1 v2 → k79 v0 v1 v2 = some (g9, h9) → FrA P [(1, 6002), (3, 5), (3, 6), (3, 7), (3, 6000), (3, 6001), (3, 6002), (3, 6003), (3, 6008), (5, 0), (5, 1), (5, 6002), (5, 6009), (6, 6000), (7, 6000), (7, 6001), (8, 6000), (8, 6001), (8, 6002), (8, 6003), (9, 6006), (9, 6007), (9, 6013), (9, 6014), (9, 6015), (9, 6016), (10, 6003), (11, 6000), (11, 6001), (11, 6003), (11, 6004), (11, 6005), (11, 6007), (11, 6008), (11, 6011), (11, 6012), (11, 6013), (11, 6014), (11, 6015), (11, 6016), (11, 6017), (11, 6018), (22, 5000), (26, 7000), (27, 7000), (28, 7000)] g0 h0 g9 h9) (F0 : FrA P [(1, 6002), (3, 5), (3, 6), (3, 7), (3, 6000), (3, 6001), (3, 6002), (3, 6003), (3, 6008), (5, 0), (5, 1), (5, 6002), (5, 6009), (6, 6000), (7, 6000), (7, 6001), (8, 6000), (8, 6001), (8, 6002), (8, 6003), (9, 6006), (9, 6007), (9, 6013), (9, 6014), (9, 6015), (9, 6016), (10, 6003), (11, 6000), (11, 6001), (11, 6003), (11, 6004), (11, 6005), (11, 6007), (11, 6008), (11, 6011), (11, 6012), (11, 6013), (11, 6014), (11, 6015), (11, 6016), (11, 6017), (11, 6018), (22, 5000), (26, 7000), (27, 7000), (28, 7000)] g0 h0 g h) (hf : pX12_init_b79 E this k79 l1 g h = some (g9, h9)) : FrA P [(1, 6002), (3, 5), (3, 6), (3, 7), (3, 6000), (3, 6001), (3, 6002), (3, 6003), (3, 6008), (5, 0), (5, 1), (5, 6002), (5, 6009), (6, 6000), (7, 6000), (7, 6001), (8, 6000), (8, 6001), (8, 6002), (8, 6003), (9, 6006), (9, 6007), (9, 6013), (9, 6014), (9, 6015), (9, 6016), (10, 6003), (11, 6000), (11, 6001), (11, 6003), (11, 6004), (11, 6005), (11, 6007), (11, 6008), (11, 6011), (11, 6012), (11, 6013), (11, 6014), (11, 6015), (11, 6016), (11, 6017), (11, 6018), (22, 5000), (26, 7000), (27, 7000), (28, 7000)] g0 h0 g9 h9 := by
  unfold pX12_init_b79 at hf
  by_cases c1 : 3 ≤ l1
  · rw [if_pos c1] at hf
    replace hf := (gq_i hf).2
    obtain ⟨g2, e2⟩ : ∃ z, z = (gA g 1 5) := ⟨_, rfl⟩; replace hf := lt_i hf g2 e2
    obtain ⟨h3, e3⟩ : ∃ z, z = (hZ h (gN g)) := ⟨_, rfl⟩; replace hf := lt_i hf h3 e3
    have F4 := FrA.alloc F0 hP e2 e3
    obtain ⟨a4, e5⟩ : ∃ z, z = (gN g) := ⟨_, rfl⟩; replace hf := lt_i hf a4 e5
    replace hf := tg_i hf; obtain ⟨t6, hf⟩ := hf
    replace hf := bd2_i hf; obtain ⟨g8, h9, q7, hf⟩ := hf
    have F8q := pX1_init_fr (fun a ha => hP a (Nat.le_trans F4.1 ha)) F4.2.2.1 (hP _ (e5 ▸ F0.1)) q7
    have F8 := FrA.trans F4 F8q (by decide)
    replace hf := (gq_i hf).2
    replace hf := tg_i hf; obtain ⟨t9, hf⟩ := hf
    obtain ⟨h14, e10⟩ : ∃ z, z = (sR h9 this 14 (some a4)) := ⟨_, rfl⟩; replace hf := lt_i hf h14 e10
    have F11 := FrA.sR F8 P_this t9 (Or.inl (by decide)) (fun b hb => Option.some.inj hb ▸ (hP _ (e5 ▸ F0.1))) e10
    replace hf := (gq_i hf).2
    obtain ⟨g15, e12⟩ : ∃ z, z = (gA g8 8 11) := ⟨_, rfl⟩; replace hf := lt_i hf g15 e12
    obtain ⟨h16, e13⟩ : ∃ z, z = (hZ h14 (gN g8)) := ⟨_, rfl⟩; replace hf := lt_i hf h16 e13
    have F14 := FrA.alloc F11 hP e12 e13
    obtain ⟨a17, e15⟩ : ∃ z, z = (gN g8) := ⟨_, rfl⟩; replace hf := lt_i hf a17 e15
    replace hf := tg_i hf; obtain ⟨t16, hf⟩ := hf
    obtain ⟨r21, e17⟩ : ∃ z, z = (hR h16 this 14) := ⟨_, rfl⟩; replace hf := lt_i hf r21 e17
    replace hf := tg_i hf; obtain ⟨t18, hf⟩ := hf
    replace hf := nn_i hf; obtain ⟨a21, e19, hf⟩ := hf
    replace hf := bd2_i hf; obtain ⟨g23, h24, q20, hf⟩ := hf
    have F21q := pX9_init_fr (fun a ha => hP a (Nat.le_trans F14.1 ha)) F14.2.2.1 (hP _ (e15 ▸ F11.1)) ((fun b hb => F14.2.2.1 _ _ b P_this (e17.symm.trans hb)) _ e19) q20
    have F21 := FrA.trans F14 F21q (by decide)
    replace hf := (gq_i hf).2
    replace hf := tg_i hf; obtain ⟨t22, hf⟩ := hf
    obtain ⟨h29, e23⟩ : ∃ z, z = (sR h24 this 7 (some a17)) := ⟨_, rfl⟩; replace hf := lt_i hf h29 e23
    have F24 := FrA.sR F21 P_this t22 (Or.inl (by decide)) (fun b hb => Option.some.inj hb ▸ (hP _ (e15 ▸ F11.1))) e23
    replace hf := (gq_i hf).2
    obtain ⟨g30, e25⟩ : ∃ z, z = (gA g23 9 17) := ⟨_, rfl⟩; replace hf := lt_i hf g30 e25
    obtain ⟨h31, e26⟩ : ∃ z, z = (hZ h29 (gN g23)) := ⟨_, rfl⟩; replace hf := lt_i hf h31 e26
    have F27 := FrA.alloc F24 hP e25 e26
    obtain ⟨a32, e28⟩ : ∃ z, z = (gN g23) := ⟨_, rfl⟩; replace hf := lt_i hf a32 e28
    replace hf := tg_i hf; obtain ⟨t29, hf⟩ := hf
    replace hf := bd2_i hf; obtain ⟨g36, h37, q30, hf⟩ := hf
    have F31q := pX10_init_fr (fun a ha => hP a (Nat.le_trans F27.1 ha)) PE F27.2.2.1 (hP _ (e28 ▸ F24.1)) q30
    have F31 := FrA.trans F27 F31q (by decide)
    replace hf := (gq_i hf).2
    replace hf := tg_i hf; obtain ⟨t32, hf⟩ := hf
    obtain ⟨h42, e33⟩ : ∃ z, z = (sR h37 this 8 (some a32)) := ⟨_, rfl⟩; replace hf := lt_i hf h42 e33
    have F34 := FrA.sR F31 P_this t32 (Or.inl (by decide)) (fun b hb => Option.some.inj hb ▸ (hP _ (e28 ▸ F24.1))) e33
    replace hf := (gq_i hf).2
    obtain ⟨g43, e35⟩ : ∃ z, z = (gA g36 3 9) := ⟨_, rfl⟩; replace hf := lt_i hf g43 e35
    obtain ⟨h44, e36⟩ : ∃ z, z = (hZ h42 (gN g36)) := ⟨_, rfl⟩; replace hf := lt_i hf h44 e36
    have F37 := FrA.alloc F34 hP e35 e36
    obtain ⟨a45, e38⟩ : ∃ z, z = (gN g36) := ⟨_, rfl⟩; replace hf := lt_i hf a45 e38
    replace hf := tg_i hf; obtain ⟨t39, hf⟩ := hf
    replace hf := bd2_i hf; obtain ⟨g49, h50, q40, hf⟩ := hf
    have F41q := pX3_init_fr (fun a ha => hP a (Nat.le_trans F37.1 ha)) F37.2.2.1 (hP _ (e38 ▸ F34.1)) q40
    have F41 := FrA.trans F37 F41q (by decide)
    replace hf := (gq_i hf).2
    replace hf := tg_i hf; obtain ⟨t42, hf⟩ := hf
    obtain ⟨h55, e43⟩ : ∃ z, z = (sR h50 this 11 (some a45)) := ⟨_, rfl⟩; replace hf := lt_i hf h55 e43
    have F44 := FrA.sR F41 P_this t42 (Or.inl (by decide)) (fun b hb => Option.some.inj hb ▸ (hP _ (e38 ▸ F34.1))) e43
    replace hf := (gq_i hf).2
    obtain ⟨g56, e45⟩ : ∃ z, z = (gA g49 6 2) := ⟨_, rfl⟩; replace hf := lt_i hf g56 e45
    obtain ⟨h57, e46⟩ : ∃ z, z = (hZ h55 (gN g49)) := ⟨_, rfl⟩; replace hf := lt_i hf h57 e46
    have F47 := FrA.alloc F44 hP e45 e46
    obtain ⟨a58, e48⟩ : ∃ z, z = (gN g49) := ⟨_, rfl⟩; replace hf := lt_i hf a58 e48
    replace hf := tg_i hf; obtain ⟨t49, hf⟩ := hf
    replace hf := bd2_i hf; obtain ⟨g62, h63, q50, hf⟩ := hf
    have F51q := pX7_init_fr (fun a ha => hP a (Nat.le_trans F47.1 ha)) F47.2.2.1 (hP _ (e48 ▸ F44.1)) q50
    have F51 := FrA.trans F47 F51q (by decide)
    replace hf := (gq_i hf).2
    replace hf := tg_i hf; obtain ⟨t52, hf⟩ := hf
    obtain ⟨h68, e53⟩ : ∃ z, z = (sR h63 this 12 (some a58)) := ⟨_, rfl⟩; replace hf := lt_i hf h68 e53
    have F54 := FrA.sR F51 P_this t52 (Or.inl (by decide)) (fun b hb => Option.some.inj hb ▸ (hP _ (e48 ▸ F44.1))) e53
    replace hf := (gq_i hf).2
    obtain ⟨g69, e55⟩ : ∃ z, z = (gA g62 9 17) := ⟨_, rfl⟩; replace hf := lt_i hf g69 e55
    obtain ⟨h70, e56⟩ : ∃ z, z = (hZ h68 (gN g62)) := ⟨_, rfl⟩; replace hf := lt_i hf h70 e56
    have F57 := FrA.alloc F54 hP e55 e56
    obtain ⟨a71, e58⟩ : ∃ z, z = (gN g62) := ⟨_, rfl⟩; replace hf := lt_i hf a71 e58
    replace hf := tg_i hf; obtain ⟨t59, hf⟩ := hf
    replace hf := bd2_i hf; obtain ⟨g75, h76, q60, hf⟩ := hf
    have F61q := pX10_init_fr (fun a ha => hP a (Nat.le_trans F57.1 ha)) PE F57.2.2.1 (hP _ (e58 ▸ F54.1)) q60
    have F61 := FrA.trans F57 F61q (by decide)
    replace hf := (gq_i hf).2
    replace hf := tg_i hf; obtain ⟨t62, hf⟩ := hf
    obtain ⟨h81, e63⟩ : ∃ z, z = (sR h76 this 13 (some a71)) := ⟨_, rfl⟩; replace hf := lt_i hf h81 e63
    have F64 := FrA.sR F61 P_this t62 (Or.inl (by decide)) (fun b hb => Option.some.inj hb ▸ (hP _ (e58 ▸ F54.1))) e63
    replace hf := (gq_i hf).2
    obtain ⟨g82, e65⟩ : ∃ z, z = (gA g75 4 2) := ⟨_, rfl⟩; replace hf := lt_i hf g82 e65
    obtain ⟨h83, e66⟩ : ∃ z, z = (hZ h81 (gN g75)) := ⟨_, rfl⟩; replace hf := lt_i hf h83 e66
    have F67 := FrA.alloc F64 hP e65 e66
    obtain ⟨a84, e68⟩ : ∃ z, z = (gN g75) := ⟨_, rfl⟩; replace hf := lt_i hf a84 e68
    replace hf := tg_i hf; obtain ⟨t69, hf⟩ := hf
    replace hf := bd2_i hf; obtain ⟨g88, h89, q70, hf⟩ := hf
    have F71q := pX4_init_fr (fun a ha => hP a (Nat.le_trans F67.1 ha)) F67.2.2.1 (hP _ (e68 ▸ F64.1)) q70
    have F71 := FrA.trans F67 F71q (by decide)
    replace hf := (gq_i hf).2
    replace hf := tg_i hf; obtain ⟨t72, hf⟩ := hf
    obtain ⟨h94, e73⟩ : ∃ z, z = (sR h89 this 15 (some a84)) := ⟨_, rfl⟩; replace hf := lt_i hf h94 e73
    have F74 := FrA.sR F71 P_this t72 (Or.inl (by decide)) (fun b hb => Option.some.inj hb ▸ (hP _ (e68 ▸ F64.1))) e73
    replace hf := (gq_i hf).2
    obtain ⟨g95, e75⟩ : ∃ z, z = (gA g88 4 2) := ⟨_, rfl⟩; replace hf := lt_i hf g95 e75
    obtain ⟨h96, e76⟩ : ∃ z, z = (hZ h94 (gN g88)) := ⟨_, rfl⟩; replace hf := lt_i hf h96 e76
    have F77 := FrA.alloc F74 hP e75 e76
    obtain ⟨a97, e78⟩ : ∃ z, z = (gN g88) := ⟨_, rfl⟩; replace hf := lt_i hf a97 e78
    replace hf := tg_i hf; obtain ⟨t79, hf⟩ := hf
    replace hf := bd2_i hf; obtain ⟨g101, h102, q80, hf⟩ := hf
    have F81q := pX4_init_fr (fun a ha => hP a (Nat.le_trans F77.1 ha)) F77.2.2.1 (hP _ (e78 ▸ F74.1)) q80
    have F81 := FrA.trans F77 F81q (by decide)
    replace hf := (gq_i hf).2
    replace hf := tg_i hf; obtain ⟨t82, hf⟩ := hf
    obtain ⟨h107, e83⟩ : ∃ z, z = (sR h102 this 16 (some a97)) := ⟨_, rfl⟩; replace hf := lt_i hf h107 e83
    have F84 := FrA.sR F81 P_this t82 (Or.inl (by decide)) (fun b hb => Option.some.inj hb ▸ (hP _ (e78 ▸ F74.1))) e83
    replace hf := (gq_i hf).2
    obtain ⟨g108, e85⟩ : ∃ z, z = (gA g101 4 2) := ⟨_, rfl⟩; replace hf := lt_i hf g108 e85
    obtain ⟨h109, e86⟩ : ∃ z, z = (hZ h107 (gN g101)) := ⟨_, rfl⟩; replace hf := lt_i hf h109 e86
    have F87 := FrA.alloc F84 hP e85 e86
    obtain ⟨a110, e88⟩ : ∃ z, z = (gN g101) := ⟨_, rfl⟩; replace hf := lt_i hf a110 e88
    replace hf := tg_i hf; obtain ⟨t89, hf⟩ := hf
    replace hf := bd2_i hf; obtain ⟨g114, h115, q90, hf⟩ := hf
    have F91q := pX4_init_fr (fun a ha => hP a (Nat.le_trans F87.1 ha)) F87.2.2.1 (hP _ (e88 ▸ F84.1)) q90
    have F91 := FrA.trans F87 F91q (by decide)
    replace hf := (gq_i hf).2
    replace hf := tg_i hf; obtain ⟨t92, hf⟩ := hf
    obtain ⟨h120, e93⟩ : ∃ z, z = (sR h115 this 17 (some a110)) := ⟨_, rfl⟩; replace hf := lt_i hf h120 e93
    have F94 := FrA.sR F91 P_this t92 (Or.inl (by decide)) (fun b hb => Option.some.inj hb ▸ (hP _ (e88 ▸ F84.1))) e93
    replace hf := (gq_i hf).2
    obtain ⟨g121, e95⟩ : ∃ z, z = (gA g114 4 2) := ⟨_, rfl⟩; replace hf := lt_i hf g121 e95
    obtain ⟨h122, e96⟩ : ∃ z, z = (hZ h120 (gN g114)) := ⟨_, rfl⟩; replace hf := lt_i hf h122 e96
    have F97 := FrA.alloc F94 hP e95 e96
    obtain ⟨a123, e98⟩ : ∃ z, z = (gN g114) := ⟨_, rfl⟩; replace hf := lt_i hf a123 e98
    replace hf := tg_i hf; obtain ⟨t99, hf⟩ := hf
    replace hf := bd2_i hf; obtain ⟨g127, h128, q100, hf⟩ := hf
    have F101q := pX4_init_fr (fun a ha => hP a (Nat.le_trans F97.1 ha)) F97.2.2.1 (hP _ (e98 ▸ F94.1)) q100
    have F101 := FrA.trans F97 F101q (by decide)
    replace hf := (gq_i hf).2
    replace hf := tg_i hf; obtain ⟨t102, hf⟩ := hf
    obtain ⟨h133, e103⟩ : ∃ z, z = (sR h128 this 18 (some a123)) := ⟨_, rfl⟩; replace hf := lt_i hf h133 e103
    have F104 := FrA.sR F101 P_this t102 (Or.inl (by decide)) (fun b hb => Option.some.inj hb ▸ (hP _ (e98 ▸ F94.1))) e103
    cases hf
    exact F104
  · rw [if_neg c1] at hf
    replace hf := tg_i hf; obtain ⟨t105, hf⟩ := hf
    obtain ⟨r135, e106⟩ : ∃ z, z = (hR h this 5) := ⟨_, rfl⟩; replace hf := lt_i hf r135 e106
    replace hf := (gq_i hf).2
    obtain ⟨g136, e107⟩ : ∃ z, z = (gA g 3 9) := ⟨_, rfl⟩; replace hf := lt_i hf g136 e107
    obtain ⟨h137, e108⟩ : ∃ z, z = (hZ h (gN g)) := ⟨_, rfl⟩; replace hf := lt_i hf h137 e108
    have F109 := FrA.alloc F0 hP e107 e108
    obtain ⟨a138, e110⟩ : ∃ z, z = (gN g) := ⟨_, rfl⟩; replace hf := lt_i hf a138 e110
    replace hf := tg_i hf; obtain ⟨t111, hf⟩ := hf
    replace hf := bd2_i hf; obtain ⟨g142, h143, q112, hf⟩ := hf
    have F113q := pX3_init_fr (fun a ha => hP a (Nat.le_trans F109.1 ha)) F109.2.2.1 (hP _ (e110 ▸ F0.1)) q112
    have F113 := FrA.trans F109 F113q (by decide)
    replace hf := (gq_i hf).2
    replace hf := nn_i hf; obtain ⟨a135, e114, hf⟩ := hf
    replace hf := tg_i hf; obtain ⟨t115, hf⟩ := hf
    replace hf := (ix_i hf).2
    replace hf := tg_i hf; obtain ⟨t116, hf⟩ := hf
    obtain ⟨h150, e117⟩ : ∃ z, z = (sR h143 a135 (Int32.toNatClampNeg l1) (some a138)) := ⟨_, rfl⟩; replace hf := lt_i hf h150 e117
    have F118 := FrA.sR F113 ((fun b hb => F0.2.2.1 _ _ b P_this (e106.symm.trans hb)) _ e114) t115 (Or.inr (by decide)) (fun b hb => Option.some.inj hb ▸ (hP _ (e110 ▸ F0.1))) e117
    obtain ⟨x151, e119⟩ : ∃ z, z = (l1 + 1) := ⟨_, rfl⟩; replace hf := lt_i hf x151 e119
    exact hk79 _ _ _ F118 hf
set_option maxRecDepth 10000 in
set_option maxHeartbeats 2000000 in
theorem pX12_init_l79_fr {P : Nat → Prop} {E : EC} {this : Nat} {g0 : MT} {h0 : CT} {g9 : MT} {h9 : CT} (hP : ∀ a, gN g0 ≤ a → P a) (PE : PEc P E) (P_this : P this) : ∀ (n : Nat) (v1 : Int32) (v2 : MT) (v3 : CT), FrA P [(1, 6002), (3, 5), (3, 6), (3, 7), (3, 6000), (3, 6001), (3, 6002), (3, 6003), (3, 6008), (5, 0), (5, 1), (5, 6002), (5, 6009), (6, 6000), (7, 6000), (7, 6001), (8, 6000), (8, 6001), (8, 6002), (8, 6003), (9, 6006), (9, 6007), (9, 6013), (9, 6014), (9, 6015), (9, 6016), (10, 6003), (11, 6000), (11, 6001), (11, 6003), (11, 6004), (11, 6005), (11, 6007), (11, 6008), (11, 6011), (11, 6012), (11, 6013), (11, 6014), (11, 6015), (11, 6016), (11, 6017), (11, 6018), (22, 5000), (26, 7000), (27, 7000), (28, 7000)] g0 h0 v2 v3 → pX12_init_l79 E this n v1 v2 v3 = some (g9, h9) → FrA P [(1, 6002), (3, 5), (3, 6), (3, 7), (3, 6000), (3, 6001), (3, 6002), (3, 6003), (3, 6008), (5, 0), (5, 1), (5, 6002), (5, 6009), (6, 6000), (7, 6000), (7, 6001), (8, 6000), (8, 6001), (8, 6002), (8, 6003), (9, 6006), (9, 6007), (9, 6013), (9, 6014), (9, 6015), (9, 6016), (10, 6003), (11, 6000), (11, 6001), (11, 6003), (11, 6004), (11, 6005), (11, 6007), (11, 6008), (11, 6011), (11, 6012), (11, 6013), (11, 6014), (11, 6015), (11, 6016), (11, 6017), (11, 6018), (22, 5000), (26, 7000), (27, 7000), (28, 7000)] g0 h0 g9 h9 := by
  intro n
  induction n with
  | zero => intro v1 v2 v3 F0 hf; cases hf
  | succ n ih => intro v1 v2 v3 F0 hf; exact pX12_init_b79_fr hP PE P_this ih F0 hf
set_option maxRecDepth 10000 in
set_option maxHeartbeats 2000000 in
theorem pX12_init_b14_fr {P : Nat → Prop} {E : EC} {this : Nat} {k14 : Int32 → MT → CT → Option (MT × CT)} {l1 : Int32} {g : MT} {h : CT} {g0 : MT} {h0 : CT} {g9 : MT} {h9 : CT} (hP : ∀ a, gN g0 ≤ a → P a) (PE : PEc P E) (P_this : P this) (hk14 : ∀ (v0 : Int32) (v1 : MT) (v2 : CT), FrA P [(1, 6002), (3, 5), (3, 6), (3, 7), (3, 6000), (3, 6001), (3, 6002), (3, 6003), (3, 6008), (5, 0), (5, 1), (5, 6002), (5, 6009), (6, 6000), (7, 6000), (7, 6001), (8, 6000), (8, 6001), (8, 6002), (8, 6003), (9, 6006), (9, 6007), (9, 6013), (9, 6014), (9, 6015), (9, 6016), (10, 6003), (11, 6000), (11, 6001), (11, 6003), (11, 6004), (11, 6005), (11, 6007), (11, 6008), (11, 6011), (11, 6012), (11, 6013), (11, 6014), (11, 6015), (11, 6016), (11, 6017), (11, 6018), (22, 5000), (26, 7000), (27, 7000), (28, 7000)] g0 h0 v1 v2 → k14 v0 v1 v2 = some (g9, h9) → FrA P [(1, 6002), (3, 5), (3, 6), (3, 7), (3, 6000), (3, 6001), (3, 6002), (3, 6003), (3, 6008), (5, 0), (5, 1), (5, 6002), (5, 6009), (6, 6000), (7, 6000), (7, 6001), (8, 6000), (8, 6001), (8, 6002), (8, 6003), (9, 6006), (9, 6007), (9, 6013), (9, 6014), (9, 6015), (9, 6016), (10, 6003), (11, 6000), (11, 6001), (11, 6003), (11, 6004), (11, 6005), (11, 6007), (11, 6008), (11, 6011), (11, 6012), (11, 6013), (11, 6014), (11, 6015), (11, 6016), (11, 6017), (11, 6018), (22, 5000), (26, 7000), (27, 7000), (28, 7000)] g0 h0 g9 h9) (F0 : FrA P [(1, 6002), (3, 5), (3, 6), (3, 7), (3, 6000), (3, 6001), (3, 6002), (3, 6003), (3, 6008), (5, 0), (5, 1), (5, 6002), (5, 6009), (6, 6000), (7, 6000), (7, 6001), (8, 6000), (8, 6001), (8, 6002), (8, 6003), (9, 6006), (9, 6007), (9, 6013), (9, 6014), (9, 6015), (9, 6016), (10, 6003), (11, 6000), (11, 6001), (11, 6003), (11, 6004), (11, 6005), (11, 6007), (11, 6008), (11, 6011), (11, 6012), (11, 6013), (11, 6014), (11, 6015), (11, 6016), (11, 6017), (11, 6018), (22, 5000), (26, 7000), (27, 7000), (28, 7000)] g0 h0 g h) (hf : pX12_init_b14 E this k14 l1 g h = some (g9, h9)) : FrA P [(1, 6002), (3, 5), (3, 6), (3, 7), (3, 6000), (3, 6001), (3, 6002), (3, 6003), (3, 6008), (5, 0), (5, 1), (5, 6002), (5, 6009), (6, 6000), (7, 6000), (7, 6001), (8, 6000), (8, 6001), (8, 6002), (8, 6003), (9, 6006), (9, 6007), (9, 6013), (9, 6014), (9, 6015), (9, 6016), (10, 6003), (11, 6000), (11, 6001), (11, 6003), (11, 6004), (11, 6005), (11, 6007), (11, 6008), (11, 6011), (11, 6012), (11, 6013), (11, 6014), (11, 6015), (11, 6016), (11, 6017), (11, 6018), (22, 5000), (26, 7000), (27, 7000), (28, 7000)] g0 h0 g9 h9 := by
  unfold pX12_init_b14 at hf
  by_cases c1 : 4 ≤ l1
  · rw [if_pos c1] at hf
    replace hf := (gq_i hf).2
    obtain ⟨g2, e2⟩ : ∃ z, z = (gA g 23 900) := ⟨_, rfl⟩; replace hf := lt_i hf g2 e2
    obtain ⟨h3, e3⟩ : ∃ z, z = (hZ h (gN g)) := ⟨_, rfl⟩; replace hf := lt_i hf h3 e3
    have F4 := FrA.alloc F0 hP e2 e3
    obtain ⟨a4, e5⟩ : ∃ z, z = (gN g) := ⟨_, rfl⟩; replace hf := lt_i hf a4 e5
    replace hf := tg_i hf; obtain ⟨t6, hf⟩ := hf
    obtain ⟨h8, e7⟩ : ∃ z, z = (sR h3 this 1 (some a4)) := ⟨_, rfl⟩; replace hf := lt_i hf h8 e7
    have F8 := FrA.sR F4 P_this t6 (Or.inl (by decide)) (fun b hb => Option.some.inj hb ▸ (hP _ (e5 ▸ F0.1))) e7
    replace hf := (gq_i hf).2
    obtain ⟨g9, e9⟩ : ∃ z, z = (gA g2 5 12) := ⟨_, rfl⟩; replace hf := lt_i hf g9 e9
    obtain ⟨h10, e10⟩ : ∃ z, z = (hZ h8 (gN g2)) := ⟨_, rfl⟩; replace hf := lt_i hf h10 e10
    have F11 := FrA.alloc F8 hP e9 e10
    obtain ⟨a11, e12⟩ : ∃ z, z = (gN g2) := ⟨_, rfl⟩; replace hf := lt_i hf a11 e12
    replace hf := tg_i hf; obtain ⟨t13, hf⟩ := hf
    replace hf := bd2_i hf; obtain ⟨g15, h16, q14, hf⟩ := hf
    have F15q := pX6_init_fr (fun a ha => hP a (Nat.le_trans F11.1 ha)) PE F11.2.2.1 (hP _ (e12 ▸ F8.1)) q14
    have F15 := FrA.trans F11 F15q (by decide)
    replace hf := (gq_i hf).2
    replace hf := tg_i hf; obtain ⟨t16, hf⟩ := hf
    obtain ⟨h21, e17⟩ : ∃ z, z = (sR h16 this 3 (some a11)) := ⟨_, rfl⟩; replace hf := lt_i hf h21 e17
    have F18 := FrA.sR F15 P_this t16 (Or.inl (by decide)) (fun b hb => Option.some.inj hb ▸ (hP _ (e12 ▸ F8.1))) e17
    replace hf := (gq_i hf).2
    obtain ⟨g22, e19⟩ : ∃ z, z = (gA g15 3 9) := ⟨_, rfl⟩; replace hf := lt_i hf g22 e19
    obtain ⟨h23, e20⟩ : ∃ z, z = (hZ h21 (gN g15)) := ⟨_, rfl⟩; replace hf := lt_i hf h23 e20
    have F21 := FrA.alloc F18 hP e19 e20
    obtain ⟨a24, e22⟩ : ∃ z, z = (gN g15) := ⟨_, rfl⟩; replace hf := lt_i hf a24 e22
    replace hf := tg_i hf; obtain ⟨t23, hf⟩ := hf
    replace hf := bd2_i hf; obtain ⟨g28, h29, q24, hf⟩ := hf
    have F25q := pX3_init_fr (fun a ha => hP a (Nat.le_trans F21.1 ha)) F21.2.2.1 (hP _ (e22 ▸ F18.1)) q24
    have F25 := FrA.trans F21 F25q (by decide)
    replace hf := (gq_i hf).2
    replace hf := tg_i hf; obtain ⟨t26, hf⟩ := hf
    obtain ⟨h34, e27⟩ : ∃ z, z = (sR h29 this 4 (some a24)) := ⟨_, rfl⟩; replace hf := lt_i hf h34 e27
    have F28 := FrA.sR F25 P_this t26 (Or.inl (by decide)) (fun b hb => Option.some.inj hb ▸ (hP _ (e22 ▸ F18.1))) e27
    replace hf := (gq_i hf).2
    obtain ⟨g35, e29⟩ : ∃ z, z = (gA g28 26 3) := ⟨_, rfl⟩; replace hf := lt_i hf g35 e29
    obtain ⟨h36, e30⟩ : ∃ z, z = (hZ h34 (gN g28)) := ⟨_, rfl⟩; replace hf := lt_i hf h36 e30
    have F31 := FrA.alloc F28 hP e29 e30
    obtain ⟨a37, e32⟩ : ∃ z, z = (gN g28) := ⟨_, rfl⟩; replace hf := lt_i hf a37 e32
    replace hf := tg_i hf; obtain ⟨t33, hf⟩ := hf
    obtain ⟨h41, e34⟩ : ∃ z, z = (sR h36 this 5 (some a37)) := ⟨_, rfl⟩; replace hf := lt_i hf h41 e34
    have F35 := FrA.sR F31 P_this t33 (Or.inl (by decide)) (fun b hb => Option.some.inj hb ▸ (hP _ (e32 ▸ F28.1))) e34
    exact pX12_init_l79_fr hP PE P_this _ _ _ _ F35 hf
  · rw [if_neg c1] at hf
    replace hf := tg_i hf; obtain ⟨t36, hf⟩ := hf
    obtain ⟨r43, e37⟩ : ∃ z, z = (hR h this 0) := ⟨_, rfl⟩; replace hf := lt_i hf r43 e37
    replace hf := (gq_i hf).2
    obtain ⟨g44, e38⟩ : ∃ z, z = (gA g 10 4) := ⟨_, rfl⟩; replace hf := lt_i hf g44 e38
    obtain ⟨h45, e39⟩ : ∃ z, z = (hZ h (gN g)) := ⟨_, rfl⟩; replace hf := lt_i hf h45 e39
    have F40 := FrA.alloc F0 hP e38 e39
    obtain ⟨a46, e41⟩ : ∃ z, z = (gN g) := ⟨_, rfl⟩; replace hf := lt_i hf a46 e41
    replace hf := tg_i hf; obtain ⟨t42, hf⟩ := hf
    replace hf := bd2_i hf; obtain ⟨g50, h51, q43, hf⟩ := hf
    have F44q := pX11_init_fr (fun a ha => hP a (Nat.le_trans F40.1 ha)) F40.2.2.1 (hP _ (e41 ▸ F0.1)) q43
    have F44 := FrA.trans F40 F44q (by decide)
    replace hf := (gq_i hf).2
    replace hf := nn_i hf; obtain ⟨a43, e45, hf⟩ := hf
    replace hf := tg_i hf; obtain ⟨t46, hf⟩ := hf
    replace hf := (ix_i hf).2
    replace hf := tg_i hf; obtain ⟨t47, hf⟩ := hf
    obtain ⟨h58, e48⟩ : ∃ z, z = (sR h51 a43 (Int32.toNatClampNeg l1) (some a46)) := ⟨_, rfl⟩; replace hf := lt_i hf h58 e48
    have F49 := FrA.sR F44 ((fun b hb => F0.2.2.1 _ _ b P_this (e37.symm.trans hb)) _ e45) t46 (Or.inr (by decide)) (fun b hb => Option.some.inj hb ▸ (hP _ (e41 ▸ F0.1))) e48
    obtain ⟨x59, e50⟩ : ∃ z, z = (l1 + 1) := ⟨_, rfl⟩; replace hf := lt_i hf x59 e50
    exact hk14 _ _ _ F49 hf
set_option maxRecDepth 10000 in
set_option maxHeartbeats 2000000 in
theorem pX12_init_l14_fr {P : Nat → Prop} {E : EC} {this : Nat} {g0 : MT} {h0 : CT} {g9 : MT} {h9 : CT} (hP : ∀ a, gN g0 ≤ a → P a) (PE : PEc P E) (P_this : P this) : ∀ (n : Nat) (v1 : Int32) (v2 : MT) (v3 : CT), FrA P [(1, 6002), (3, 5), (3, 6), (3, 7), (3, 6000), (3, 6001), (3, 6002), (3, 6003), (3, 6008), (5, 0), (5, 1), (5, 6002), (5, 6009), (6, 6000), (7, 6000), (7, 6001), (8, 6000), (8, 6001), (8, 6002), (8, 6003), (9, 6006), (9, 6007), (9, 6013), (9, 6014), (9, 6015), (9, 6016), (10, 6003), (11, 6000), (11, 6001), (11, 6003), (11, 6004), (11, 6005), (11, 6007), (11, 6008), (11, 6011), (11, 6012), (11, 6013), (11, 6014), (11, 6015), (11, 6016), (11, 6017), (11, 6018), (22, 5000), (26, 7000), (27, 7000), (28, 7000)] g0 h0 v2 v3 → pX12_init_l14 E this n v1 v2 v3 = some (g9, h9) → FrA P [(1, 6002), (3, 5), (3, 6), (3, 7), (3, 6000), (3, 6001), (3, 6002), (3, 6003), (3, 6008), (5, 0), (5, 1), (5, 6002), (5, 6009), (6, 6000), (7, 6000), (7, 6001), (8, 6000), (8, 6001), (8, 6002), (8, 6003), (9, 6006), (9, 6007), (9, 6013), (9, 6014), (9, 6015), (9, 6016), (10, 6003), (11, 6000), (11, 6001), (11, 6003), (11, 6004), (11, 6005), (11, 6007), (11, 6008), (11, 6011), (11, 6012), (11, 6013), (11, 6014), (11, 6015), (11, 6016), (11, 6017), (11, 6018), (22, 5000), (26, 7000), (27, 7000), (28, 7000)] g0 h0 g9 h9 := by
  intro n
  induction n with
  | zero => intro v1 v2 v3 F0 hf; cases hf
  | succ n ih => intro v1 v2 v3 F0 hf; exact pX12_init_b14_fr hP PE P_this ih F0 hf
set_option maxRecDepth 10000 in
set_option maxHeartbeats 2000000 in
theorem pX12_init_fr {P : Nat → Prop} {E : EC} {g : MT} {h : CT} {this : Nat} {g9 : MT} {h9 : CT} (hP : ∀ a, gN g ≤ a → P a) (PE : PEc P E) (hc : Cl P h) (P_this : P this) (hf : pX12_init E g h this = some (g9, h9)) : FrA P [(1, 6002), (3, 5), (3, 6), (3, 7), (3, 6000), (3, 6001), (3, 6002), (3, 6003), (3, 6008), (5, 0), (5, 1), (5, 6002), (5, 6009), (6, 6000), (7, 6000), (7, 6001), (8, 6000), (8, 6001), (8, 6002), (8, 6003), (9, 6006), (9, 6007), (9, 6013), (9, 6014), (9, 6015), (9, 6016), (10, 6003), (11, 6000), (11, 6001), (11, 6003), (11, 6004), (11, 6005), (11, 6007), (11, 6008), (11, 6011), (11, 6012), (11, 6013), (11, 6014), (11, 6015), (11, 6016), (11, 6017), (11, 6018), (22, 5000), (26, 7000), (27, 7000), (28, 7000)] g h g9 h9 := by
  have F0 : FrA P [(1, 6002), (3, 5), (3, 6), (3, 7), (3, 6000), (3, 6001), (3, 6002), (3, 6003), (3, 6008), (5, 0), (5, 1), (5, 6002), (5, 6009), (6, 6000), (7, 6000), (7, 6001), (8, 6000), (8, 6001), (8, 6002), (8, 6003), (9, 6006), (9, 6007), (9, 6013), (9, 6014), (9, 6015), (9, 6016), (10, 6003), (11, 6000), (11, 6001), (11, 6003), (11, 6004), (11, 6005), (11, 6007), (11, 6008), (11, 6011), (11, 6012), (11, 6013), (11, 6014), (11, 6015), (11, 6016), (11, 6017), (11, 6018), (22, 5000), (26, 7000), (27, 7000), (28, 7000)] g h g h := FrA.rf hc
  unfold pX12_init at hf
  replace hf := (gq_i hf).2
  replace hf := (gq_i hf).2
  obtain ⟨g1, e1⟩ : ∃ z, z = (gA g 28 4) := ⟨_, rfl⟩; replace hf := lt_i hf g1 e1
  obtain ⟨h2, e2⟩ : ∃ z, z = (hZ h (gN g)) := ⟨_, rfl⟩; replace hf := lt_i hf h2 e2
  have F3 := FrA.alloc F0 hP e1 e2
  obtain ⟨a3, e4⟩ : ∃ z, z = (gN g) := ⟨_, rfl⟩; replace hf := lt_i hf a3 e4
  replace hf := tg_i hf; obtain ⟨t5, hf⟩ := hf
  obtain ⟨h7, e6⟩ : ∃ z, z = (sR h2 this 0 (some a3)) := ⟨_, rfl⟩; replace hf := lt_i hf h7 e6
  have F7 := FrA.sR F3 P_this t5 (Or.inl (by decide)) (fun b hb => Option.some.inj hb ▸ (hP _ (e4 ▸ F0.1))) e6
  exact pX12_init_l14_fr hP PE P_this _ _ _ _ F7 hf
set_option maxRecDepth 10000 in
set_option maxHeartbeats 2000000 in
theorem pX6_beginInstruction_b103_fr {P : Nat → Prop} {E : EC} {this : Nat} {r91 : Option Nat} {g : MT} {h : CT} {g0 : MT} {h0 : CT} {r9 : Int32} {g9 : MT} {h9 : CT} (hP : ∀ a, gN g0 ≤ a → P a) (PE : PEc P E) (P_this : P this) (P_r91 : ∀ b, r91 = some b → P b) (F0 : FrA P [(2, 9), (2, 6000), (5, 10), (5, 6008), (5, 6009), (5, 6011), (6, 1), (25, 7000)] g0 h0 g h) (hf : pX6_beginInstruction_b103 E this r91 g h = some (r9, g9, h9)) : FrA P [(2, 9), (2, 6000), (5, 10), (5, 6008), (5, 6009), (5, 6011), (6, 1), (25, 7000)] g0 h0 g9 h9 := by
  unfold pX6_beginInstruction_b103 at hf
  replace hf := tg_i hf; obtain ⟨t1, hf⟩ := hf
  obtain ⟨r2, e2⟩ : ∃ z, z = (hR h this 7) := ⟨_, rfl⟩; replace hf := lt_i hf r2 e2
  replace hf := nn_i hf; obtain ⟨a2, e3, hf⟩ := hf
  replace hf := tg_i hf; obtain ⟨t4, hf⟩ := hf
  replace hf := nn_i hf; obtain ⟨a91, e5, hf⟩ := hf
  replace hf := bd3_i hf; obtain ⟨r8, g4, h5, q6, hf⟩ := hf
  have F7q := pX7_append_fr (fun a ha => hP a (Nat.le_trans F0.1 ha)) F0.2.2.1 ((fun b hb => F0.2.2.1 _ _ b P_this (e2.symm.trans hb)) _ e3) (P_r91 _ e5) q6
  have F7 := FrA.trans F0 F7q.1 (by decide)
  replace hf := (gq_i hf).2
  replace hf := tg_i hf; obtain ⟨t8, hf⟩ := hf
  obtain ⟨h11, e9⟩ : ∃ z, z = (sR h5 this 8 r8) := ⟨_, rfl⟩; replace hf := lt_i hf h11 e9
  have F10 := FrA.sR F7 P_this t8 (Or.inl (by decide)) F7q.2 e9
  replace hf := kR_i hf; obtain ⟨a12, e11, hf⟩ := hf
  by_cases c12 : (some a91) = (some a12)
  · rw [if_pos c12] at hf
    obtain ⟨r14, e13⟩ : ∃ z, z = (hR h11 this 8) := ⟨_, rfl⟩; replace hf := lt_i hf r14 e13
    obtain ⟨h15, e14⟩ : ∃ z, z = (sR h11 this 11 r14) := ⟨_, rfl⟩; replace hf := lt_i hf h15 e14
    have F15 := FrA.sR F10 P_this t8 (Or.inl (by decide)) (fun b hb => F10.2.2.1 _ _ b P_this (e13.symm.trans hb)) e14
    cases hf
    exact F15
  · rw [if_neg c12] at hf
    cases hf
    exact F10
set_option maxRecDepth 10000 in
set_option maxHeartbeats 2000000 in
theorem pX6_beginInstruction_b25_fr {P : Nat → Prop} {E : EC} {this : Nat} {r91 : Option Nat} {g : MT} {h : CT} {g0 : MT} {h0 : CT} {r9 : Int32} {g9 : MT} {h9 : CT} (hP : ∀ a, gN g0 ≤ a → P a) (PE : PEc P E) (P_this : P this) (P_r91 : ∀ b, r91 = some b → P b) (F0 : FrA P [(2, 9), (2, 6000), (5, 10), (5, 6008), (5, 6009), (5, 6011), (6, 1), (25, 7000)] g0 h0 g h) (hf : pX6_beginInstruction_b25 E this r91 g h = some (r9, g9, h9)) : FrA P [(2, 9), (2, 6000), (5, 10), (5, 6008), (5, 6009), (5, 6011), (6, 1), (25, 7000)] g0 h0 g9 h9 := by
  unfold pX6_beginInstruction_b25 at hf
  replace hf := nn_i hf; obtain ⟨a91, e1, hf⟩ := hf
  replace hf := tg_i hf; obtain ⟨t2, hf⟩ := hf
  obtain ⟨r2, e3⟩ : ∃ z, z = (hR E.2.1 a91 4) := ⟨_, rfl⟩; replace hf := lt_i hf r2 e3
  replace hf := tg_i hf; obtain ⟨t4, hf⟩ := hf
  obtain ⟨h4, e5⟩ : ∃ z, z = (sR h this 9 r2) := ⟨_, rfl⟩; replace hf := lt_i hf h4 e5
  have F6 := FrA.sR F0 P_this t4 (Or.inl (by decide)) (fun b hb => PE.2 _ _ b (e3.symm.trans hb)) e5
  obtain ⟨h5, e7⟩ : ∃ z, z = (sI h4 this 10 0) := ⟨_, rfl⟩; replace hf := lt_i hf h5 e7
  have F8 := FrA.sI F6 P_this t4 (Or.inl (by decide)) e7
  replace hf := kR_i hf; obtain ⟨a6, e9, hf⟩ := hf
  by_cases c10 : (some a91) = (some a6)
  · rw [if_pos c10] at hf
    obtain ⟨r15, e11⟩ : ∃ z, z = (hR h5 this 11) := ⟨_, rfl⟩; replace hf := lt_i hf r15 e11
    obtain ⟨r16, e12⟩ : ∃ z, z = (hR h5 this 7) := ⟨_, rfl⟩; replace hf := lt_i hf r16 e12
    replace hf := nn_i hf; obtain ⟨a16, e13, hf⟩ := hf
    replace hf := tg_i hf; obtain ⟨t14, hf⟩ := hf
    replace hf := nn_i hf; obtain ⟨a15, e15, hf⟩ := hf
    replace hf := tg_i hf; obtain ⟨t16, hf⟩ := hf
    obtain ⟨h19, e17⟩ : ∃ z, z = (sI h5 a15 9 (hI h5 a16 1)) := ⟨_, rfl⟩; replace hf := lt_i hf h19 e17
    have F18 := FrA.sI F8 ((fun b hb => F8.2.2.1 _ _ b P_this (e11.symm.trans hb)) _ e15) t16 (Or.inl (by decide)) e17
    obtain ⟨h20, e19⟩ : ∃ z, z = (sR h19 this 11 none) := ⟨_, rfl⟩; replace hf := lt_i hf h20 e19
    have F20 := FrA.sR F18 P_this t4 (Or.inl (by decide)) (fun b hb => by cases hb) e19
    obtain ⟨h21, e21⟩ : ∃ z, z = (sR h20 this 8 none) := ⟨_, rfl⟩; replace hf := lt_i hf h21 e21
    have F22 := FrA.sR F20 P_this t4 (Or.inl (by decide)) (fun b hb => by cases hb) e21
    cases hf
    exact F22
  · rw [if_neg c10] at hf
    obtain ⟨r8, e23⟩ : ∃ z, z = (hR h5 this 7) := ⟨_, rfl⟩; replace hf := lt_i hf r8 e23
    replace hf := nn_i hf; obtain ⟨a8, e24, hf⟩ := hf
    replace hf := tg_i hf; obtain ⟨t25, hf⟩ := hf
    by_cases c26 : (hI h5 a8 1) < 30
    · rw [if_pos c26] at hf
      replace hf := kR_i hf; obtain ⟨a11, e27, hf⟩ := hf
      by_cases c28 : (some a91) = (some a11)
      · rw [if_pos c28] at hf
        obtain ⟨r13, e29⟩ : ∃ z, z = (hR h5 this 11) := ⟨_, rfl⟩; replace hf := lt_i hf r13 e29
        by_cases c30 : r13 = none
        · rw [if_pos c30] at hf
          exact pX6_beginInstruction_b103_fr hP PE P_this (fun b hb => Option.some.inj hb ▸ (P_r91 _ e1)) F8 hf
        · rw [if_neg c30] at hf
          cases hf
          exact F8
      · rw [if_neg c28] at hf
        exact pX6_beginInstruction_b103_fr hP PE P_this (fun b hb => Option.some.inj hb ▸ (P_r91 _ e1)) F8 hf
    · rw [if_neg c26] at hf
      cases hf
      exact F8
set_option maxRecDepth 10000 in
set_option maxHeartbeats 2000000 in
theorem pX6_beginInstruction_fr {P : Nat → Prop} {E : EC} {g : MT} {h : CT} {this : Nat} {r9 : Int32} {g9 : MT} {h9 : CT} (hP : ∀ a, gN g ≤ a → P a) (PE : PEc P E) (hc : Cl P h) (P_this : P this) (hf : pX6_beginInstruction E g h this = some (r9, g9, h9)) : FrA P [(2, 9), (2, 6000), (5, 10), (5, 6008), (5, 6009), (5, 6011), (6, 1), (25, 7000)] g h g9 h9 := by
  have F0 : FrA P [(2, 9), (2, 6000), (5, 10), (5, 6008), (5, 6009), (5, 6011), (6, 1), (25, 7000)] g h g h := FrA.rf hc
  unfold pX6_beginInstruction at hf
  replace hf := (gq_i hf).2
  replace hf := tg_i hf; obtain ⟨t1, hf⟩ := hf
  replace hf := bd2_i hf; obtain ⟨r4, h2, q2, hf⟩ := hf
  have F3q := pX6_opNamed_fr PE F0.2.2.1 P_this q2
  have F3 := FrA.call F0 F3q.1 (by decide)
  by_cases c4 : r4 = none
  · rw [if_pos c4] at hf
    cases hf
    exact F3
  · rw [if_neg c4] at hf
    replace hf := kR_i hf; obtain ⟨a6, e5, hf⟩ := hf
    by_cases c6 : r4 = (some a6)
    · rw [if_pos c6] at hf
      obtain ⟨r8, e7⟩ : ∃ z, z = (hR h2 this 11) := ⟨_, rfl⟩; replace hf := lt_i hf r8 e7
      by_cases c8 : r8 = none
      · rw [if_pos c8] at hf
        cases hf
        exact F3
      · rw [if_neg c8] at hf
        exact pX6_beginInstruction_b25_fr hP PE P_this F3q.2 F3 hf
    · rw [if_neg c6] at hf
      exact pX6_beginInstruction_b25_fr hP PE P_this F3q.2 F3 hf
set_option maxRecDepth 10000 in
set_option maxHeartbeats 2000000 in
theorem pX6_tokenFault_fr {P : Nat → Prop} {E : EC} {g : MT} {h : CT} {this : Nat} {r9 : Int32} {g9 : MT} {h9 : CT} (hP : ∀ a, gN g ≤ a → P a) (PE : PEc P E) (hc : Cl P h) (P_this : P this) (hf : pX6_tokenFault E g h this = some (r9, g9, h9)) : FrA P [(2, 1), (2, 2), (2, 3), (2, 4), (2, 5), (2, 6), (2, 7), (2, 8), (2, 9), (2, 6000), (5, 10), (5, 6008), (5, 6009), (5, 6011), (6, 1), (25, 7000)] g h g9 h9 := by
  have F0 : FrA P [(2, 1), (2, 2), (2, 3), (2, 4), (2, 5), (2, 6), (2, 7), (2, 8), (2, 9), (2, 6000), (5, 10), (5, 6008), (5, 6009), (5, 6011), (6, 1), (25, 7000)] g h g h := FrA.rf hc
  unfold pX6_tokenFault at hf
  replace hf := (gq_i hf).2
  replace hf := tg_i hf; obtain ⟨t1, hf⟩ := hf
  by_cases c2 : (hI h this 6) = 0
  · rw [if_pos c2] at hf
    cases hf
    exact F0
  · rw [if_neg c2] at hf
    obtain ⟨r3, e3⟩ : ∃ z, z = (hR h this 9) := ⟨_, rfl⟩; replace hf := lt_i hf r3 e3
    replace hf := nn_i hf; obtain ⟨a3, e4, hf⟩ := hf
    replace hf := tg_i hf; obtain ⟨t5, hf⟩ := hf
    replace hf := bd_i hf; obtain ⟨x5, q6, hf⟩ := hf
    by_cases c7 : x5 ≤ (hI h this 10)
    · rw [if_pos c7] at hf
      replace hf := bd3_i hf; obtain ⟨x12, g8, h9, q8, hf⟩ := hf
      have F9q := pX6_beginInstruction_fr (fun a ha => hP a (Nat.le_trans F0.1 ha)) PE F0.2.2.1 P_this q8
      have F9 := FrA.trans F0 F9q (by decide)
      replace hf := (gq_i hf).2
      cases hf
      exact F9
    · rw [if_neg c7] at hf
      replace hf := bd2_i hf; obtain ⟨x16, h14, q10, hf⟩ := hf
      have F11q := pX6_follow_fr PE F0.2.2.1 P_this q10
      have F11 := FrA.call F0 F11q (by decide)
      cases hf
      exact F11
set_option maxRecDepth 10000 in
set_option maxHeartbeats 2000000 in
theorem pX6_parse_b160_fr {P : Nat → Prop} {E : EC} {this : Nat} {p1 : Nat} {p2 : Int32} {g : MT} {h : CT} {g0 : MT} {h0 : CT} {r9 : Option Nat} {g9 : MT} {h9 : CT} (hP : ∀ a, gN g0 ≤ a → P a) (PE : PEc P E) (P_this : P this) (P_p1 : P p1) (F0 : FrA P [(2, 1), (2, 2), (2, 3), (2, 4), (2, 5), (2, 6), (2, 7), (2, 8), (2, 9), (2, 6000), (5, 0), (5, 1), (5, 3), (5, 4), (5, 5), (5, 6), (5, 10), (5, 6002), (5, 6007), (5, 6008), (5, 6009), (5, 6011), (6, 1), (6, 6000), (25, 7000)] g0 h0 g h) (hf : pX6_parse_b160 E this p1 p2 g h = some (r9, g9, h9)) : FrA P [(2, 1), (2, 2), (2, 3), (2, 4), (2, 5), (2, 6), (2, 7), (2, 8), (2, 9), (2, 6000), (5, 0), (5, 1), (5, 3), (5, 4), (5, 5), (5, 6), (5, 10), (5, 6002), (5, 6007), (5, 6008), (5, 6009), (5, 6011), (6, 1), (6, 6000), (25, 7000)] g0 h0 g9 h9 ∧ ∀ b, r9 = some b → P b := by
  unfold pX6_parse_b160 at hf
  replace hf := tg_i hf; obtain ⟨t1, hf⟩ := hf
  by_cases c2 : (hI h this 0) = 0
  · rw [if_pos c2] at hf
    obtain ⟨r3, e3⟩ : ∃ z, z = (hR h this 7) := ⟨_, rfl⟩; replace hf := lt_i hf r3 e3
    cases hf
    exact ⟨F0, (fun b hb => F0.2.2.1 _ _ b P_this (e3.symm.trans hb))⟩
  · rw [if_neg c2] at hf
    cases hf
    exact ⟨F0, (fun b hb => by cases hb)⟩
set_option maxRecDepth 10000 in
set_option maxHeartbeats 2000000 in
theorem pX6_parse_b147_fr {P : Nat → Prop} {E : EC} {this : Nat} {p1 : Nat} {p2 : Int32} {g : MT} {h : CT} {g0 : MT} {h0 : CT} {r9 : Option Nat} {g9 : MT} {h9 : CT} (hP : ∀ a, gN g0 ≤ a → P a) (PE : PEc P E) (P_this : P this) (P_p1 : P p1) (F0 : FrA P [(2, 1), (2, 2), (2, 3), (2, 4), (2, 5), (2, 6), (2, 7), (2, 8), (2, 9), (2, 6000), (5, 0), (5, 1), (5, 3), (5, 4), (5, 5), (5, 6), (5, 10), (5, 6002), (5, 6007), (5, 6008), (5, 6009), (5, 6011), (6, 1), (6, 6000), (25, 7000)] g0 h0 g h) (hf : pX6_parse_b147 E this p1 p2 g h = some (r9, g9, h9)) : FrA P [(2, 1), (2, 2), (2, 3), (2, 4), (2, 5), (2, 6), (2, 7), (2, 8), (2, 9), (2, 6000), (5, 0), (5, 1), (5, 3), (5, 4), (5, 5), (5, 6), (5, 10), (5, 6002), (5, 6007), (5, 6008), (5, 6009), (5, 6011), (6, 1), (6, 6000), (25, 7000)] g0 h0 g9 h9 ∧ ∀ b, r9 = some b → P b := by
  unfold pX6_parse_b147 at hf
  replace hf := tg_i hf; obtain ⟨t1, hf⟩ := hf
  obtain ⟨h2, e2⟩ : ∃ z, z = (sI h this 0 2) := ⟨_, rfl⟩; replace hf := lt_i hf h2 e2
  have F3 := FrA.sI F0 P_this t1 (Or.inl (by decide)) e2
  obtain ⟨h3, e4⟩ : ∃ z, z = (sI h2 this 1 (hI h2 this 3)) := ⟨_, rfl⟩; replace hf := lt_i hf h3 e4
  have F5 := FrA.sI F3 P_this t1 (Or.inl (by decide)) e4
  exact pX6_parse_b160_fr hP PE P_this P_p1 F5 hf
set_option maxRecDepth 10000 in
set_option maxHeartbeats 2000000 in
theorem pX6_parse_b119_fr {P : Nat → Prop} {E : EC} {this : Nat} {p1 : Nat} {p2 : Int32} {g : MT} {h : CT} {g0 : MT} {h0 : CT} {r9 : Option Nat} {g9 : MT} {h9 : CT} (hP : ∀ a, gN g0 ≤ a → P a) (PE : PEc P E) (P_this : P this) (P_p1 : P p1) (F0 : FrA P [(2, 1), (2, 2), (2, 3), (2, 4), (2, 5), (2, 6), (2, 7), (2, 8), (2, 9), (2, 6000), (5, 0), (5, 1), (5, 3), (5, 4), (5, 5), (5, 6), (5, 10), (5, 6002), (5, 6007), (5, 6008), (5, 6009), (5, 6011), (6, 1), (6, 6000), (25, 7000)] g0 h0 g h) (hf : pX6_parse_b119 E this p1 p2 g h = some (r9, g9, h9)) : FrA P [(2, 1), (2, 2), (2, 3), (2, 4), (2, 5), (2, 6), (2, 7), (2, 8), (2, 9), (2, 6000), (5, 0), (5, 1), (5, 3), (5, 4), (5, 5), (5, 6), (5, 10), (5, 6002), (5, 6007), (5, 6008), (5, 6009), (5, 6011), (6, 1), (6, 6000), (25, 7000)] g0 h0 g9 h9 ∧ ∀ b, r9 = some b → P b := by
  unfold pX6_parse_b119 at hf
  replace hf := tg_i hf; obtain ⟨t1, hf⟩ := hf
  by_cases c2 : (hI h this 0) = 0
  · rw [if_pos c2] at hf
    obtain ⟨r3, e3⟩ : ∃ z, z = (hR h this 9) := ⟨_, rfl⟩; replace hf := lt_i hf r3 e3
    replace hf := nn_i hf; obtain ⟨a3, e4, hf⟩ := hf
    replace hf := tg_i hf; obtain ⟨t5, hf⟩ := hf
    replace hf := bd_i hf; obtain ⟨x5, q6, hf⟩ := hf
    by_cases c7 : (hI h this 10) < x5
    · rw [if_pos c7] at hf
      exact pX6_parse_b147_fr hP PE P_this P_p1 F0 hf
    · rw [if_neg c7] at hf
      obtain ⟨r8, e8⟩ : ∃ z, z = (hR h this 11) := ⟨_, rfl⟩; replace hf := lt_i hf r8 e8
      by_cases c9 : r8 = none
      · rw [if_pos c9] at hf
        exact pX6_parse_b160_fr hP PE P_this P_p1 F0 hf
      · rw [if_neg c9] at hf
        exact pX6_parse_b147_fr hP PE P_this P_p1 F0 hf
  · rw [if_neg c2] at hf
    exact pX6_parse_b160_fr hP PE P_this P_p1 F0 hf
set_option maxRecDepth 10000 in
set_option maxHeartbeats 2000000 in
theorem pX6_parse_b110_fr {P : Nat → Prop} {E : EC} {this : Nat} {p1 : Nat} {p2 : Int32} {k64 : Int32 → MT → CT → Option ((Option Nat) × MT × CT)} {l3 : Int32} {s0 : Nat} {s1 : Int32} {g : MT} {h : CT} {g0 : MT} {h0 : CT} {r9 : Option Nat} {g9 : MT} {h9 : CT} (hP : ∀ a, gN g0 ≤ a → P a) (PE : PEc P E) (P_this : P this) (P_p1 : P p1) (hk64 : ∀ (v0 : Int32) (v1 : MT) (v2 : CT), FrA P [(2, 1), (2, 2), (2, 3), (2, 4), (2, 5), (2, 6), (2, 7), (2, 8), (2, 9), (2, 6000), (5, 0), (5, 1), (5, 3), (5, 4), (5, 5), (5, 6), (5, 10), (5, 6002), (5, 6007), (5, 6008), (5, 6009), (5, 6011), (6, 1), (6, 6000), (25, 7000)] g0 h0 v1 v2 → k64 v0 v1 v2 = some (r9, g9, h9) → FrA P [(2, 1), (2, 2), (2, 3), (2, 4), (2, 5), (2, 6), (2, 7), (2, 8), (2, 9), (2, 6000), (5, 0), (5, 1), (5, 3), (5, 4), (5, 5), (5, 6), (5, 10), (5, 6002), (5, 6007), (5, 6008), (5, 6009), (5, 6011), (6, 1), (6, 6000), (25, 7000)] g0 h0 g9 h9 ∧ ∀ b, r9 = some b → P b) (P_s0 : P s0) (F0 : FrA P [(2, 1), (2, 2), (2, 3), (2, 4), (2, 5), (2, 6), (2, 7), (2, 8), (2, 9), (2, 6000), (5, 0), (5, 1), (5, 3), (5, 4), (5, 5), (5, 6), (5, 10), (5, 6002), (5, 6007), (5, 6008), (5, 6009), (5, 6011), (6, 1), (6, 6000), (25, 7000)] g0 h0 g h) (hf : pX6_parse_b110 E this p1 p2 k64 l3 s0 s1 g h = some (r9, g9, h9)) : FrA P [(2, 1), (2, 2), (2, 3), (2, 4), (2, 5), (2, 6), (2, 7), (2, 8), (2, 9), (2, 6000), (5, 0), (5, 1), (5, 3), (5, 4), (5, 5), (5, 6), (5, 10), (5, 6002), (5, 6007), (5, 6008), (5, 6009), (5, 6011), (6, 1), (6, 6000), (25, 7000)] g0 h0 g9 h9 ∧ ∀ b, r9 = some b → P b := by
  unfold pX6_parse_b110 at hf
  replace hf := tg_i hf; obtain ⟨t1, hf⟩ := hf
  obtain ⟨h2, e2⟩ : ∃ z, z = (sI h s0 1 s1) := ⟨_, rfl⟩; replace hf := lt_i hf h2 e2
  have F3 := FrA.sI F0 P_s0 t1 (Or.inl (by decide)) e2
  obtain ⟨x3, e4⟩ : ∃ z, z = (l3 + 1) := ⟨_, rfl⟩; replace hf := lt_i hf x3 e4
  exact hk64 _ _ _ F3 hf
set_option maxRecDepth 10000 in
set_option maxHeartbeats 2000000 in
theorem pX6_parse_b64_fr {P : Nat → Prop} {E : EC} {this : Nat} {p1 : Nat} {p2 : Int32} {k64 : Int32 → MT → CT → Option ((Option Nat) × MT × CT)} {l3 : Int32} {g : MT} {h : CT} {g0 : MT} {h0 : CT} {r9 : Option Nat} {g9 : MT} {h9 : CT} (hP : ∀ a, gN g0 ≤ a → P a) (PE : PEc P E) (P_this : P this) (P_p1 : P p1) (hk64 : ∀ (v0 : Int32) (v1 : MT) (v2 : CT), FrA P [(2, 1), (2, 2), (2, 3), (2, 4), (2, 5), (2, 6), (2, 7), (2, 8), (2, 9), (2, 6000), (5, 0), (5, 1), (5, 3), (5, 4), (5, 5), (5, 6), (5, 10), (5, 6002), (5, 6007), (5, 6008), (5, 6009), (5, 6011), (6, 1), (6, 6000), (25, 7000)] g0 h0 v1 v2 → k64 v0 v1 v2 = some (r9, g9, h9) → FrA P [(2, 1), (2, 2), (2, 3), (2, 4), (2, 5), (2, 6), (2, 7), (2, 8), (2, 9), (2, 6000), (5, 0), (5, 1), (5, 3), (5, 4), (5, 5), (5, 6), (5, 10), (5, 6002), (5, 6007), (5, 6008), (5, 6009), (5, 6011), (6, 1), (6, 6000), (25, 7000)] g0 h0 g9 h9 ∧ ∀ b, r9 = some b → P b) (F0 : FrA P [(2, 1), (2, 2), (2, 3), (2, 4), (2, 5), (2, 6), (2, 7), (2, 8), (2, 9), (2, 6000), (5, 0), (5, 1), (5, 3), (5, 4), (5, 5), (5, 6), (5, 10), (5, 6002), (5, 6007), (5, 6008), (5, 6009), (5, 6011), (6, 1), (6, 6000), (25, 7000)] g0 h0 g h) (hf : pX6_parse_b64 E this p1 p2 k64 l3 g h = some (r9, g9, h9)) : FrA P [(2, 1), (2, 2), (2, 3), (2, 4), (2, 5), (2, 6), (2, 7), (2, 8), (2, 9), (2, 6000), (5, 0), (5, 1), (5, 3), (5, 4), (5, 5), (5, 6), (5, 10), (5, 6002), (5, 6007), (5, 6008), (5, 6009), (5, 6011), (6, 1), (6, 6000), (25, 7000)] g0 h0 g9 h9 ∧ ∀ b, r9 = some b → P b := by
  unfold pX6_parse_b64 at hf
  replace hf := tg_i hf; obtain ⟨t1, hf⟩ := hf
  by_cases c2 : (hI h this 3) < l3
  · rw [if_pos c2] at hf
    exact pX6_parse_b119_fr hP PE P_this P_p1 F0 hf
  · rw [if_neg c2] at hf
    by_cases c3 : (hI h this 0) = 0
    · rw [if_pos c3] at hf
      replace hf := bd2_i hf; obtain ⟨x6, h4, q4, hf⟩ := hf
      have F5q := pX6_nextToken_fr F0.2.2.1 P_this q4
      have F5 := FrA.call F0 F5q (by decide)
      by_cases c6 : x6 = 0
      · rw [if_pos c6] at hf
        exact pX6_parse_b119_fr hP PE P_this P_p1 F5 hf
      · rw [if_neg c6] at hf
        replace hf := bd3_i hf; obtain ⟨x12, g8, h9, q7, hf⟩ := hf
        have F8q := pX6_tokenFault_fr (fun a ha => hP a (Nat.le_trans F5.1 ha)) PE F5.2.2.1 P_this q7
        have F8 := FrA.trans F5 F8q (by decide)
        replace hf := (gq_i hf).2
        replace hf := tg_i hf; obtain ⟨t9, hf⟩ := hf
        obtain ⟨h15, e10⟩ : ∃ z, z = (sI h9 this 0 x12) := ⟨_, rfl⟩; replace hf := lt_i hf h15 e10
        have F11 := FrA.sI F8 P_this t9 (Or.inl (by decide)) e10
        by_cases c12 : (hI h15 this 0) = 0
        · rw [if_pos c12] at hf
          exact pX6_parse_b110_fr hP PE P_this P_p1 hk64 P_this F11 hf
        · rw [if_neg c12] at hf
          exact pX6_parse_b110_fr hP PE P_this P_p1 hk64 P_this F11 hf
    · rw [if_neg c3] at hf
      exact pX6_parse_b119_fr hP PE P_this P_p1 F0 hf
set_option maxRecDepth 10000 in
set_option maxHeartbeats 2000000 in
theorem pX6_parse_l64_fr {P : Nat → Prop} {E : EC} {this : Nat} {p1 : Nat} {p2 : Int32} {g0 : MT} {h0 : CT} {r9 : Option Nat} {g9 : MT} {h9 : CT} (hP : ∀ a, gN g0 ≤ a → P a) (PE : PEc P E) (P_this : P this) (P_p1 : P p1) : ∀ (n : Nat) (v1 : Int32) (v2 : MT) (v3 : CT), FrA P [(2, 1), (2, 2), (2, 3), (2, 4), (2, 5), (2, 6), (2, 7), (2, 8), (2, 9), (2, 6000), (5, 0), (5, 1), (5, 3), (5, 4), (5, 5), (5, 6), (5, 10), (5, 6002), (5, 6007), (5, 6008), (5, 6009), (5, 6011), (6, 1), (6, 6000), (25, 7000)] g0 h0 v2 v3 → pX6_parse_l64 E this p1 p2 n v1 v2 v3 = some (r9, g9, h9) → FrA P [(2, 1), (2, 2), (2, 3), (2, 4), (2, 5), (2, 6), (2, 7), (2, 8), (2, 9), (2, 6000), (5, 0), (5, 1), (5, 3), (5, 4), (5, 5), (5, 6), (5, 10), (5, 6002), (5, 6007), (5, 6008), (5, 6009), (5, 6011), (6, 1), (6, 6000), (25, 7000)] g0 h0 g9 h9 ∧ ∀ b, r9 = some b → P b := by
  intro n
  induction n with
  | zero => intro v1 v2 v3 F0 hf; cases hf
  | succ n ih => intro v1 v2 v3 F0 hf; exact pX6_parse_b64_fr hP PE P_this P_p1 ih F0 hf
set_option maxRecDepth 10000 in
set_option maxHeartbeats 2000000 in
theorem pX6_parse_fr {P : Nat → Prop} {E : EC} {g : MT} {h : CT} {this : Nat} {p1 : Nat} {p2 : Int32} {r9 : Option Nat} {g9 : MT} {h9 : CT} (hP : ∀ a, gN g ≤ a → P a) (PE : PEc P E) (hc : Cl P h) (P_this : P this) (P_p1 : P p1) (hf : pX6_parse E g h this p1 p2 = some (r9, g9, h9)) : FrA P [(2, 1), (2, 2), (2, 3), (2, 4), (2, 5), (2, 6), (2, 7), (2, 8), (2, 9), (2, 6000), (5, 0), (5, 1), (5, 3), (5, 4), (5, 5), (5, 6), (5, 10), (5, 6002), (5, 6007), (5, 6008), (5, 6009), (5, 6011), (6, 1), (6, 6000), (25, 7000)] g h g9 h9 ∧ ∀ b, r9 = some b → P b := by
  have F0 : FrA P [(2, 1), (2, 2), (2, 3), (2, 4), (2, 5), (2, 6), (2, 7), (2, 8), (2, 9), (2, 6000), (5, 0), (5, 1), (5, 3), (5, 4), (5, 5), (5, 6), (5, 10), (5, 6002), (5, 6007), (5, 6008), (5, 6009), (5, 6011), (6, 1), (6, 6000), (25, 7000)] g h g h := FrA.rf hc
  unfold pX6_parse at hf
  replace hf := (gq_i hf).2
  replace hf := tg_i hf; obtain ⟨t1, hf⟩ := hf
  obtain ⟨h2, e2⟩ : ∃ z, z = (sR h this 2 (some p1)) := ⟨_, rfl⟩; replace hf := lt_i hf h2 e2
  have F3 := FrA.sR F0 P_this t1 (Or.inl (by decide)) (fun b hb => Option.some.inj hb ▸ P_p1) e2
  replace hf := tg_i hf; obtain ⟨t4, hf⟩ := hf
  obtain ⟨h4, e5⟩ : ∃ z, z = (sI h2 this 3 (pJ9_min_7cf53 p2 (Int32.ofNat (gL g p1)))) := ⟨_, rfl⟩; replace hf := lt_i hf h4 e5
  have F6 := FrA.sI F3 P_this t1 (Or.inl (by decide)) e5
  obtain ⟨h5, e7⟩ : ∃ z, z = (sI h4 this 5 0) := ⟨_, rfl⟩; replace hf := lt_i hf h5 e7
  have F8 := FrA.sI F6 P_this t1 (Or.inl (by decide)) e7
  replace hf := (gq_i hf).2
  obtain ⟨g6, e9⟩ : ∃ z, z = (gA g 6 2) := ⟨_, rfl⟩; replace hf := lt_i hf g6 e9
  obtain ⟨h7, e10⟩ : ∃ z, z = (hZ h5 (gN g)) := ⟨_, rfl⟩; replace hf := lt_i hf h7 e10
  have F11 := FrA.alloc F8 hP e9 e10
  obtain ⟨a8, e12⟩ : ∃ z, z = (gN g) := ⟨_, rfl⟩; replace hf := lt_i hf a8 e12
  replace hf := tg_i hf; obtain ⟨t13, hf⟩ := hf
  replace hf := bd2_i hf; obtain ⟨g12, h13, q14, hf⟩ := hf
  have F15q := pX7_init_fr (fun a ha => hP a (Nat.le_trans F11.1 ha)) F11.2.2.1 (hP _ (e12 ▸ F8.1)) q14
  have F15 := FrA.trans F11 F15q (by decide)
  replace hf := (gq_i hf).2
  replace hf := tg_i hf; obtain ⟨t16, hf⟩ := hf
  obtain ⟨h18, e17⟩ : ∃ z, z = (sR h13 this 7 (some a8)) := ⟨_, rfl⟩; replace hf := lt_i hf h18 e17
  have F18 := FrA.sR F15 P_this t16 (Or.inl (by decide)) (fun b hb => Option.some.inj hb ▸ (hP _ (e12 ▸ F8.1))) e17
  obtain ⟨h19, e19⟩ : ∃ z, z = (sR h18 this 8 none) := ⟨_, rfl⟩; replace hf := lt_i hf h19 e19
  have F20 := FrA.sR F18 P_this t16 (Or.inl (by decide)) (fun b hb => by cases hb) e19
  replace hf := kR_i hf; obtain ⟨a20, e21, hf⟩ := hf
  obtain ⟨h21, e22⟩ : ∃ z, z = (sR h19 this 9 (some a20)) := ⟨_, rfl⟩; replace hf := lt_i hf h21 e22
  have F23 := FrA.sR F20 P_this t16 (Or.inl (by decide)) (fun b hb => Option.some.inj hb ▸ (PE.1 _ _ (by decide) e21)) e22
  obtain ⟨h22, e24⟩ : ∃ z, z = (sI h21 this 10 0) := ⟨_, rfl⟩; replace hf := lt_i hf h22 e24
  have F25 := FrA.sI F23 P_this t16 (Or.inl (by decide)) e24
  obtain ⟨h23, e26⟩ : ∃ z, z = (sR h22 this 11 none) := ⟨_, rfl⟩; replace hf := lt_i hf h23 e26
  have F27 := FrA.sR F25 P_this t16 (Or.inl (by decide)) (fun b hb => by cases hb) e26
  obtain ⟨h24, e28⟩ : ∃ z, z = (sI h23 this 0 0) := ⟨_, rfl⟩; replace hf := lt_i hf h24 e28
  have F29 := FrA.sI F27 P_this t16 (Or.inl (by decide)) e28
  obtain ⟨h25, e30⟩ : ∃ z, z = (sI h24 this 1 (-1)) := ⟨_, rfl⟩; replace hf := lt_i hf h25 e30
  have F31 := FrA.sI F29 P_this t16 (Or.inl (by decide)) e30
  exact pX6_parse_l64_fr hP PE P_this P_p1 _ _ _ _ F31 hf
set_option maxRecDepth 10000 in
set_option maxHeartbeats 2000000 in
theorem pX12_program_fr {P : Nat → Prop} {E : EC} {g : MT} {h : CT} {this : Nat} {p1 : Int32} {r9 : Int32} {g9 : MT} {h9 : CT} (hP : ∀ a, gN g ≤ a → P a) (PE : PEc P E) (hc : Cl P h) (P_this : P this) (hf : pX12_program E g h this p1 = some (r9, g9, h9)) : FrA P [(2, 1), (2, 2), (2, 3), (2, 4), (2, 5), (2, 6), (2, 7), (2, 8), (2, 9), (2, 6000), (3, 6008), (5, 0), (5, 1), (5, 3), (5, 4), (5, 5), (5, 6), (5, 10), (5, 6002), (5, 6007), (5, 6008), (5, 6009), (5, 6011), (6, 1), (6, 6000), (11, 2), (11, 10), (11, 19), (25, 7000)] g h g9 h9 := by
  have F0 : FrA P [(2, 1), (2, 2), (2, 3), (2, 4), (2, 5), (2, 6), (2, 7), (2, 8), (2, 9), (2, 6000), (3, 6008), (5, 0), (5, 1), (5, 3), (5, 4), (5, 5), (5, 6), (5, 10), (5, 6002), (5, 6007), (5, 6008), (5, 6009), (5, 6011), (6, 1), (6, 6000), (11, 2), (11, 10), (11, 19), (25, 7000)] g h g h := FrA.rf hc
  unfold pX12_program at hf
  replace hf := (gq_i hf).2
  replace hf := tg_i hf; obtain ⟨t1, hf⟩ := hf
  by_cases c2 : (pX12_within p1 0 (hI h this 2)) = 0
  · rw [if_pos c2] at hf
    replace hf := bd2_i hf; obtain ⟨x28, h26, q3, hf⟩ := hf
    have F4q := pX12_refuse_fr F0.2.2.1 P_this q3
    have F4 := FrA.call F0 F4q (by decide)
    cases hf
    exact F4
  · rw [if_neg c2] at hf
    obtain ⟨r3, e5⟩ : ∃ z, z = (hR h this 3) := ⟨_, rfl⟩; replace hf := lt_i hf r3 e5
    obtain ⟨r4, e6⟩ : ∃ z, z = (hR h this 1) := ⟨_, rfl⟩; replace hf := lt_i hf r4 e6
    replace hf := nn_i hf; obtain ⟨a3, e7, hf⟩ := hf
    replace hf := tg_i hf; obtain ⟨t8, hf⟩ := hf
    replace hf := nn_i hf; obtain ⟨a4, e9, hf⟩ := hf
    replace hf := bd3_i hf; obtain ⟨r10, g6, h7, q10, hf⟩ := hf
    have F11q := pX6_parse_fr (fun a ha => hP a (Nat.le_trans F0.1 ha)) PE F0.2.2.1 ((fun b hb => F0.2.2.1 _ _ b P_this (e5.symm.trans hb)) _ e7) ((fun b hb => F0.2.2.1 _ _ b P_this (e6.symm.trans hb)) _ e9) q10
    have F11 := FrA.trans F0 F11q.1 (by decide)
    replace hf := (gq_i hf).2
    replace hf := tg_i hf; obtain ⟨t12, hf⟩ := hf
    obtain ⟨h13, e13⟩ : ∃ z, z = (sI h7 this 2 0) := ⟨_, rfl⟩; replace hf := lt_i hf h13 e13
    have F14 := FrA.sI F11 P_this t12 (Or.inl (by decide)) e13
    by_cases c15 : r10 = none
    · rw [if_pos c15] at hf
      replace hf := bd2_i hf; obtain ⟨x25, h23, q16, hf⟩ := hf
      have F17q := pX12_refuse_fr F14.2.2.1 P_this q16
      have F17 := FrA.call F14 F17q (by decide)
      cases hf
      exact F17
    · rw [if_neg c15] at hf
      obtain ⟨r15, e18⟩ : ∃ z, z = (hR h13 this 4) := ⟨_, rfl⟩; replace hf := lt_i hf r15 e18
      replace hf := nn_i hf; obtain ⟨a15, e19, hf⟩ := hf
      replace hf := tg_i hf; obtain ⟨t20, hf⟩ := hf
      obtain ⟨h17, e21⟩ : ∃ z, z = (sR h13 a15 8 r10) := ⟨_, rfl⟩; replace hf := lt_i hf h17 e21
      have F22 := FrA.sR F14 ((fun b hb => F14.2.2.1 _ _ b P_this (e18.symm.trans hb)) _ e19) t20 (Or.inl (by decide)) F11q.2 e21
      obtain ⟨h18, e23⟩ : ∃ z, z = (sI h17 this 10 0) := ⟨_, rfl⟩; replace hf := lt_i hf h18 e23
      have F24 := FrA.sI F22 P_this t12 (Or.inl (by decide)) e23
      replace hf := nn_i hf; obtain ⟨a10, e25, hf⟩ := hf
      replace hf := tg_i hf; obtain ⟨t26, hf⟩ := hf
      replace hf := bd2_i hf; obtain ⟨x22, h20, q27, hf⟩ := hf
      have F28q := pX12_answer_fr F24.2.2.1 P_this q27
      have F28 := FrA.call F24 F28q (by decide)
      cases hf
      exact F28
set_option maxRecDepth 10000 in
set_option maxHeartbeats 2000000 in
theorem pX13_init_b153_fr {P : Nat → Prop} {this : Nat} {k153 : Int32 → MT → CT → Option (MT × CT)} {l1 : Int32} {g : MT} {h : CT} {g0 : MT} {h0 : CT} {g9 : MT} {h9 : CT} (hP : ∀ a, gN g0 ≤ a → P a) (P_this : P this) (hk153 : ∀ (v0 : Int32) (v1 : MT) (v2 : CT), FrA P [(12, 10), (12, 11), (12, 6004), (12, 6005), (12, 6006), (12, 6007), (12, 6019), (12, 6020), (12, 6023), (12, 6024), (12, 6025), (12, 6026), (12, 6027), (12, 6028), (12, 6043), (12, 6045), (12, 6046), (12, 6047), (12, 6050), (20, 1000)] g0 h0 v1 v2 → k153 v0 v1 v2 = some (g9, h9) → FrA P [(12, 10), (12, 11), (12, 6004), (12, 6005), (12, 6006), (12, 6007), (12, 6019), (12, 6020), (12, 6023), (12, 6024), (12, 6025), (12, 6026), (12, 6027), (12, 6028), (12, 6043), (12, 6045), (12, 6046), (12, 6047), (12, 6050), (20, 1000)] g0 h0 g9 h9) (F0 : FrA P [(12, 10), (12, 11), (12, 6004), (12, 6005), (12, 6006), (12, 6007), (12, 6019), (12, 6020), (12, 6023), (12, 6024), (12, 6025), (12, 6026), (12, 6027), (12, 6028), (12, 6043), (12, 6045), (12, 6046), (12, 6047), (12, 6050), (20, 1000)] g0 h0 g h) (hf : pX13_init_b153 this k153 l1 g h = some (g9, h9)) : FrA P [(12, 10), (12, 11), (12, 6004), (12, 6005), (12, 6006), (12, 6007), (12, 6019), (12, 6020), (12, 6023), (12, 6024), (12, 6025), (12, 6026), (12, 6027), (12, 6028), (12, 6043), (12, 6045), (12, 6046), (12, 6047), (12, 6050), (20, 1000)] g0 h0 g9 h9 := by
  unfold pX13_init_b153 at hf
  by_cases c1 : 4 ≤ l1
  · rw [if_pos c1] at hf
    replace hf := tg_i hf; obtain ⟨t2, hf⟩ := hf
    obtain ⟨r3, e3⟩ : ∃ z, z = (hR h this 19) := ⟨_, rfl⟩; replace hf := lt_i hf r3 e3
    replace hf := nn_i hf; obtain ⟨a3, e4, hf⟩ := hf
    replace hf := tg_i hf; obtain ⟨t5, hf⟩ := hf
    replace hf := (ix_i hf).2
    obtain ⟨h6, e6⟩ : ∃ z, z = (sI h a3 (Int32.toNatClampNeg 0) 16) := ⟨_, rfl⟩; replace hf := lt_i hf h6 e6
    have F7 := FrA.sI F0 ((fun b hb => F0.2.2.1 _ _ b P_this (e3.symm.trans hb)) _ e4) t5 (Or.inr (by decide)) e6
    obtain ⟨r7, e8⟩ : ∃ z, z = (hR h6 this 19) := ⟨_, rfl⟩; replace hf := lt_i hf r7 e8
    replace hf := nn_i hf; obtain ⟨a7, e9, hf⟩ := hf
    replace hf := tg_i hf; obtain ⟨t10, hf⟩ := hf
    replace hf := (ix_i hf).2
    obtain ⟨h10, e11⟩ : ∃ z, z = (sI h6 a7 (Int32.toNatClampNeg 1) 8) := ⟨_, rfl⟩; replace hf := lt_i hf h10 e11
    have F12 := FrA.sI F7 ((fun b hb => F7.2.2.1 _ _ b P_this (e8.symm.trans hb)) _ e9) t10 (Or.inr (by decide)) e11
    obtain ⟨r11, e13⟩ : ∃ z, z = (hR h10 this 19) := ⟨_, rfl⟩; replace hf := lt_i hf r11 e13
    replace hf := nn_i hf; obtain ⟨a11, e14, hf⟩ := hf
    replace hf := tg_i hf; obtain ⟨t15, hf⟩ := hf
    replace hf := (ix_i hf).2
    obtain ⟨h14, e16⟩ : ∃ z, z = (sI h10 a11 (Int32.toNatClampNeg 2) 4) := ⟨_, rfl⟩; replace hf := lt_i hf h14 e16
    have F17 := FrA.sI F12 ((fun b hb => F12.2.2.1 _ _ b P_this (e13.symm.trans hb)) _ e14) t15 (Or.inr (by decide)) e16
    cases hf
    exact F17
  · rw [if_neg c1] at hf
    replace hf := tg_i hf; obtain ⟨t18, hf⟩ := hf
    obtain ⟨r16, e19⟩ : ∃ z, z = (hR h this 5) := ⟨_, rfl⟩; replace hf := lt_i hf r16 e19
    replace hf := nn_i hf; obtain ⟨a16, e20, hf⟩ := hf
    replace hf := tg_i hf; obtain ⟨t21, hf⟩ := hf
    replace hf := (ix_i hf).2
    obtain ⟨h19, e22⟩ : ∃ z, z = (sI h a16 (Int32.toNatClampNeg l1) (-1)) := ⟨_, rfl⟩; replace hf := lt_i hf h19 e22
    have F23 := FrA.sI F0 ((fun b hb => F0.2.2.1 _ _ b P_this (e19.symm.trans hb)) _ e20) t21 (Or.inr (by decide)) e22
    obtain ⟨x20, e24⟩ : ∃ z, z = (l1 + 1) := ⟨_, rfl⟩; replace hf := lt_i hf x20 e24
    exact hk153 _ _ _ F23 hf
set_option maxRecDepth 10000 in
set_option maxHeartbeats 2000000 in
theorem pX13_init_l153_fr {P : Nat → Prop} {this : Nat} {g0 : MT} {h0 : CT} {g9 : MT} {h9 : CT} (hP : ∀ a, gN g0 ≤ a → P a) (P_this : P this) : ∀ (n : Nat) (v1 : Int32) (v2 : MT) (v3 : CT), FrA P [(12, 10), (12, 11), (12, 6004), (12, 6005), (12, 6006), (12, 6007), (12, 6019), (12, 6020), (12, 6023), (12, 6024), (12, 6025), (12, 6026), (12, 6027), (12, 6028), (12, 6043), (12, 6045), (12, 6046), (12, 6047), (12, 6050), (20, 1000)] g0 h0 v2 v3 → pX13_init_l153 this n v1 v2 v3 = some (g9, h9) → FrA P [(12, 10), (12, 11), (12, 6004), (12, 6005), (12, 6006), (12, 6007), (12, 6019), (12, 6020), (12, 6023), (12, 6024), (12, 6025), (12, 6026), (12, 6027), (12, 6028), (12, 6043), (12, 6045), (12, 6046), (12, 6047), (12, 6050), (20, 1000)] g0 h0 g9 h9 := by
  intro n
  induction n with
  | zero => intro v1 v2 v3 F0 hf; cases hf
  | succ n ih => intro v1 v2 v3 F0 hf; exact pX13_init_b153_fr hP P_this ih F0 hf
set_option maxRecDepth 10000 in
set_option maxHeartbeats 2000000 in
theorem pX13_init_fr {P : Nat → Prop} {g : MT} {h : CT} {this : Nat} {g9 : MT} {h9 : CT} (hP : ∀ a, gN g ≤ a → P a) (hc : Cl P h) (P_this : P this) (hf : pX13_init g h this = some (g9, h9)) : FrA P [(12, 10), (12, 11), (12, 6004), (12, 6005), (12, 6006), (12, 6007), (12, 6019), (12, 6020), (12, 6023), (12, 6024), (12, 6025), (12, 6026), (12, 6027), (12, 6028), (12, 6043), (12, 6045), (12, 6046), (12, 6047), (12, 6050), (20, 1000)] g h g9 h9 := by
  have F0 : FrA P [(12, 10), (12, 11), (12, 6004), (12, 6005), (12, 6006), (12, 6007), (12, 6019), (12, 6020), (12, 6023), (12, 6024), (12, 6025), (12, 6026), (12, 6027), (12, 6028), (12, 6043), (12, 6045), (12, 6046), (12, 6047), (12, 6050), (20, 1000)] g h g h := FrA.rf hc
  unfold pX13_init at hf
  replace hf := (gq_i hf).2
  replace hf := (gq_i hf).2
  obtain ⟨g1, e1⟩ : ∃ z, z = (gA g 20 4) := ⟨_, rfl⟩; replace hf := lt_i hf g1 e1
  obtain ⟨h2, e2⟩ : ∃ z, z = (hZ h (gN g)) := ⟨_, rfl⟩; replace hf := lt_i hf h2 e2
  have F3 := FrA.alloc F0 hP e1 e2
  obtain ⟨a3, e4⟩ : ∃ z, z = (gN g) := ⟨_, rfl⟩; replace hf := lt_i hf a3 e4
  replace hf := tg_i hf; obtain ⟨t5, hf⟩ := hf
  obtain ⟨h7, e6⟩ : ∃ z, z = (sR h2 this 4 (some a3)) := ⟨_, rfl⟩; replace hf := lt_i hf h7 e6
  have F7 := FrA.sR F3 P_this t5 (Or.inl (by decide)) (fun b hb => Option.some.inj hb ▸ (hP _ (e4 ▸ F0.1))) e6
  replace hf := (gq_i hf).2
  obtain ⟨g8, e8⟩ : ∃ z, z = (gA g1 20 4) := ⟨_, rfl⟩; replace hf := lt_i hf g8 e8
  obtain ⟨h9, e9⟩ : ∃ z, z = (hZ h7 (gN g1)) := ⟨_, rfl⟩; replace hf := lt_i hf h9 e9
  have F10 := FrA.alloc F7 hP e8 e9
  obtain ⟨a10, e11⟩ : ∃ z, z = (gN g1) := ⟨_, rfl⟩; replace hf := lt_i hf a10 e11
  replace hf := tg_i hf; obtain ⟨t12, hf⟩ := hf
  obtain ⟨h14, e13⟩ : ∃ z, z = (sR h9 this 5 (some a10)) := ⟨_, rfl⟩; replace hf := lt_i hf h14 e13
  have F14 := FrA.sR F10 P_this t12 (Or.inl (by decide)) (fun b hb => Option.some.inj hb ▸ (hP _ (e11 ▸ F7.1))) e13
  replace hf := (gq_i hf).2
  obtain ⟨g15, e15⟩ : ∃ z, z = (gA g8 21 240) := ⟨_, rfl⟩; replace hf := lt_i hf g15 e15
  obtain ⟨h16, e16⟩ : ∃ z, z = (hZ h14 (gN g8)) := ⟨_, rfl⟩; replace hf := lt_i hf h16 e16
  have F17 := FrA.alloc F14 hP e15 e16
  obtain ⟨a17, e18⟩ : ∃ z, z = (gN g8) := ⟨_, rfl⟩; replace hf := lt_i hf a17 e18
  replace hf := tg_i hf; obtain ⟨t19, hf⟩ := hf
  obtain ⟨h21, e20⟩ : ∃ z, z = (sR h16 this 6 (some a17)) := ⟨_, rfl⟩; replace hf := lt_i hf h21 e20
  have F21 := FrA.sR F17 P_this t19 (Or.inl (by decide)) (fun b hb => Option.some.inj hb ▸ (hP _ (e18 ▸ F14.1))) e20
  replace hf := (gq_i hf).2
  obtain ⟨g22, e22⟩ : ∃ z, z = (gA g15 23 900) := ⟨_, rfl⟩; replace hf := lt_i hf g22 e22
  obtain ⟨h23, e23⟩ : ∃ z, z = (hZ h21 (gN g15)) := ⟨_, rfl⟩; replace hf := lt_i hf h23 e23
  have F24 := FrA.alloc F21 hP e22 e23
  obtain ⟨a24, e25⟩ : ∃ z, z = (gN g15) := ⟨_, rfl⟩; replace hf := lt_i hf a24 e25
  replace hf := tg_i hf; obtain ⟨t26, hf⟩ := hf
  obtain ⟨h28, e27⟩ : ∃ z, z = (sR h23 this 7 (some a24)) := ⟨_, rfl⟩; replace hf := lt_i hf h28 e27
  have F28 := FrA.sR F24 P_this t26 (Or.inl (by decide)) (fun b hb => Option.some.inj hb ▸ (hP _ (e25 ▸ F21.1))) e27
  obtain ⟨h29, e29⟩ : ∃ z, z = (sI h28 this 10 (-1)) := ⟨_, rfl⟩; replace hf := lt_i hf h29 e29
  have F30 := FrA.sI F28 P_this t26 (Or.inl (by decide)) e29
  obtain ⟨h30, e31⟩ : ∃ z, z = (sI h29 this 11 (-1)) := ⟨_, rfl⟩; replace hf := lt_i hf h30 e31
  have F32 := FrA.sI F30 P_this t26 (Or.inl (by decide)) e31
  replace hf := (gq_i hf).2
  obtain ⟨g31, e33⟩ : ∃ z, z = (gA g22 20 1476) := ⟨_, rfl⟩; replace hf := lt_i hf g31 e33
  obtain ⟨h32, e34⟩ : ∃ z, z = (hZ h30 (gN g22)) := ⟨_, rfl⟩; replace hf := lt_i hf h32 e34
  have F35 := FrA.alloc F32 hP e33 e34
  obtain ⟨a33, e36⟩ : ∃ z, z = (gN g22) := ⟨_, rfl⟩; replace hf := lt_i hf a33 e36
  replace hf := tg_i hf; obtain ⟨t37, hf⟩ := hf
  obtain ⟨h37, e38⟩ : ∃ z, z = (sR h32 this 19 (some a33)) := ⟨_, rfl⟩; replace hf := lt_i hf h37 e38
  have F39 := FrA.sR F35 P_this t37 (Or.inl (by decide)) (fun b hb => Option.some.inj hb ▸ (hP _ (e36 ▸ F32.1))) e38
  replace hf := (gq_i hf).2
  obtain ⟨g38, e40⟩ : ∃ z, z = (gA g31 22 984) := ⟨_, rfl⟩; replace hf := lt_i hf g38 e40
  obtain ⟨h39, e41⟩ : ∃ z, z = (hZ h37 (gN g31)) := ⟨_, rfl⟩; replace hf := lt_i hf h39 e41
  have F42 := FrA.alloc F39 hP e40 e41
  obtain ⟨a40, e43⟩ : ∃ z, z = (gN g31) := ⟨_, rfl⟩; replace hf := lt_i hf a40 e43
  replace hf := tg_i hf; obtain ⟨t44, hf⟩ := hf
  obtain ⟨h44, e45⟩ : ∃ z, z = (sR h39 this 20 (some a40)) := ⟨_, rfl⟩; replace hf := lt_i hf h44 e45
  have F46 := FrA.sR F42 P_this t44 (Or.inl (by decide)) (fun b hb => Option.some.inj hb ▸ (hP _ (e43 ▸ F39.1))) e45
  replace hf := (gq_i hf).2
  obtain ⟨g45, e47⟩ : ∃ z, z = (gA g38 20 96) := ⟨_, rfl⟩; replace hf := lt_i hf g45 e47
  obtain ⟨h46, e48⟩ : ∃ z, z = (hZ h44 (gN g38)) := ⟨_, rfl⟩; replace hf := lt_i hf h46 e48
  have F49 := FrA.alloc F46 hP e47 e48
  obtain ⟨a47, e50⟩ : ∃ z, z = (gN g38) := ⟨_, rfl⟩; replace hf := lt_i hf a47 e50
  replace hf := tg_i hf; obtain ⟨t51, hf⟩ := hf
  obtain ⟨h51, e52⟩ : ∃ z, z = (sR h46 this 23 (some a47)) := ⟨_, rfl⟩; replace hf := lt_i hf h51 e52
  have F53 := FrA.sR F49 P_this t51 (Or.inl (by decide)) (fun b hb => Option.some.inj hb ▸ (hP _ (e50 ▸ F46.1))) e52
  replace hf := (gq_i hf).2
  obtain ⟨g52, e54⟩ : ∃ z, z = (gA g45 20 96) := ⟨_, rfl⟩; replace hf := lt_i hf g52 e54
  obtain ⟨h53, e55⟩ : ∃ z, z = (hZ h51 (gN g45)) := ⟨_, rfl⟩; replace hf := lt_i hf h53 e55
  have F56 := FrA.alloc F53 hP e54 e55
  obtain ⟨a54, e57⟩ : ∃ z, z = (gN g45) := ⟨_, rfl⟩; replace hf := lt_i hf a54 e57
  replace hf := tg_i hf; obtain ⟨t58, hf⟩ := hf
  obtain ⟨h58, e59⟩ : ∃ z, z = (sR h53 this 24 (some a54)) := ⟨_, rfl⟩; replace hf := lt_i hf h58 e59
  have F60 := FrA.sR F56 P_this t58 (Or.inl (by decide)) (fun b hb => Option.some.inj hb ▸ (hP _ (e57 ▸ F53.1))) e59
  replace hf := (gq_i hf).2
  obtain ⟨g59, e61⟩ : ∃ z, z = (gA g52 20 4) := ⟨_, rfl⟩; replace hf := lt_i hf g59 e61
  obtain ⟨h60, e62⟩ : ∃ z, z = (hZ h58 (gN g52)) := ⟨_, rfl⟩; replace hf := lt_i hf h60 e62
  have F63 := FrA.alloc F60 hP e61 e62
  obtain ⟨a61, e64⟩ : ∃ z, z = (gN g52) := ⟨_, rfl⟩; replace hf := lt_i hf a61 e64
  replace hf := tg_i hf; obtain ⟨t65, hf⟩ := hf
  obtain ⟨h65, e66⟩ : ∃ z, z = (sR h60 this 25 (some a61)) := ⟨_, rfl⟩; replace hf := lt_i hf h65 e66
  have F67 := FrA.sR F63 P_this t65 (Or.inl (by decide)) (fun b hb => Option.some.inj hb ▸ (hP _ (e64 ▸ F60.1))) e66
  replace hf := (gq_i hf).2
  obtain ⟨g66, e68⟩ : ∃ z, z = (gA g59 20 16) := ⟨_, rfl⟩; replace hf := lt_i hf g66 e68
  obtain ⟨h67, e69⟩ : ∃ z, z = (hZ h65 (gN g59)) := ⟨_, rfl⟩; replace hf := lt_i hf h67 e69
  have F70 := FrA.alloc F67 hP e68 e69
  obtain ⟨a68, e71⟩ : ∃ z, z = (gN g59) := ⟨_, rfl⟩; replace hf := lt_i hf a68 e71
  replace hf := tg_i hf; obtain ⟨t72, hf⟩ := hf
  obtain ⟨h72, e73⟩ : ∃ z, z = (sR h67 this 26 (some a68)) := ⟨_, rfl⟩; replace hf := lt_i hf h72 e73
  have F74 := FrA.sR F70 P_this t72 (Or.inl (by decide)) (fun b hb => Option.some.inj hb ▸ (hP _ (e71 ▸ F67.1))) e73
  replace hf := (gq_i hf).2
  obtain ⟨g73, e75⟩ : ∃ z, z = (gA g66 20 30) := ⟨_, rfl⟩; replace hf := lt_i hf g73 e75
  obtain ⟨h74, e76⟩ : ∃ z, z = (hZ h72 (gN g66)) := ⟨_, rfl⟩; replace hf := lt_i hf h74 e76
  have F77 := FrA.alloc F74 hP e75 e76
  obtain ⟨a75, e78⟩ : ∃ z, z = (gN g66) := ⟨_, rfl⟩; replace hf := lt_i hf a75 e78
  replace hf := tg_i hf; obtain ⟨t79, hf⟩ := hf
  obtain ⟨h79, e80⟩ : ∃ z, z = (sR h74 this 27 (some a75)) := ⟨_, rfl⟩; replace hf := lt_i hf h79 e80
  have F81 := FrA.sR F77 P_this t79 (Or.inl (by decide)) (fun b hb => Option.some.inj hb ▸ (hP _ (e78 ▸ F74.1))) e80
  replace hf := (gq_i hf).2
  obtain ⟨g80, e82⟩ : ∃ z, z = (gA g73 20 30) := ⟨_, rfl⟩; replace hf := lt_i hf g80 e82
  obtain ⟨h81, e83⟩ : ∃ z, z = (hZ h79 (gN g73)) := ⟨_, rfl⟩; replace hf := lt_i hf h81 e83
  have F84 := FrA.alloc F81 hP e82 e83
  obtain ⟨a82, e85⟩ : ∃ z, z = (gN g73) := ⟨_, rfl⟩; replace hf := lt_i hf a82 e85
  replace hf := tg_i hf; obtain ⟨t86, hf⟩ := hf
  obtain ⟨h86, e87⟩ : ∃ z, z = (sR h81 this 28 (some a82)) := ⟨_, rfl⟩; replace hf := lt_i hf h86 e87
  have F88 := FrA.sR F84 P_this t86 (Or.inl (by decide)) (fun b hb => Option.some.inj hb ▸ (hP _ (e85 ▸ F81.1))) e87
  replace hf := (gq_i hf).2
  obtain ⟨g87, e89⟩ : ∃ z, z = (gA g80 22 16) := ⟨_, rfl⟩; replace hf := lt_i hf g87 e89
  obtain ⟨h88, e90⟩ : ∃ z, z = (hZ h86 (gN g80)) := ⟨_, rfl⟩; replace hf := lt_i hf h88 e90
  have F91 := FrA.alloc F88 hP e89 e90
  obtain ⟨a89, e92⟩ : ∃ z, z = (gN g80) := ⟨_, rfl⟩; replace hf := lt_i hf a89 e92
  replace hf := tg_i hf; obtain ⟨t93, hf⟩ := hf
  obtain ⟨h93, e94⟩ : ∃ z, z = (sR h88 this 43 (some a89)) := ⟨_, rfl⟩; replace hf := lt_i hf h93 e94
  have F95 := FrA.sR F91 P_this t93 (Or.inl (by decide)) (fun b hb => Option.some.inj hb ▸ (hP _ (e92 ▸ F88.1))) e94
  replace hf := (gq_i hf).2
  obtain ⟨g94, e96⟩ : ∃ z, z = (gA g87 20 6) := ⟨_, rfl⟩; replace hf := lt_i hf g94 e96
  obtain ⟨h95, e97⟩ : ∃ z, z = (hZ h93 (gN g87)) := ⟨_, rfl⟩; replace hf := lt_i hf h95 e97
  have F98 := FrA.alloc F95 hP e96 e97
  obtain ⟨a96, e99⟩ : ∃ z, z = (gN g87) := ⟨_, rfl⟩; replace hf := lt_i hf a96 e99
  replace hf := tg_i hf; obtain ⟨t100, hf⟩ := hf
  obtain ⟨h100, e101⟩ : ∃ z, z = (sR h95 this 45 (some a96)) := ⟨_, rfl⟩; replace hf := lt_i hf h100 e101
  have F102 := FrA.sR F98 P_this t100 (Or.inl (by decide)) (fun b hb => Option.some.inj hb ▸ (hP _ (e99 ▸ F95.1))) e101
  replace hf := (gq_i hf).2
  obtain ⟨g101, e103⟩ : ∃ z, z = (gA g94 20 30) := ⟨_, rfl⟩; replace hf := lt_i hf g101 e103
  obtain ⟨h102, e104⟩ : ∃ z, z = (hZ h100 (gN g94)) := ⟨_, rfl⟩; replace hf := lt_i hf h102 e104
  have F105 := FrA.alloc F102 hP e103 e104
  obtain ⟨a103, e106⟩ : ∃ z, z = (gN g94) := ⟨_, rfl⟩; replace hf := lt_i hf a103 e106
  replace hf := tg_i hf; obtain ⟨t107, hf⟩ := hf
  obtain ⟨h107, e108⟩ : ∃ z, z = (sR h102 this 46 (some a103)) := ⟨_, rfl⟩; replace hf := lt_i hf h107 e108
  have F109 := FrA.sR F105 P_this t107 (Or.inl (by decide)) (fun b hb => Option.some.inj hb ▸ (hP _ (e106 ▸ F102.1))) e108
  replace hf := (gq_i hf).2
  obtain ⟨g108, e110⟩ : ∃ z, z = (gA g101 20 30) := ⟨_, rfl⟩; replace hf := lt_i hf g108 e110
  obtain ⟨h109, e111⟩ : ∃ z, z = (hZ h107 (gN g101)) := ⟨_, rfl⟩; replace hf := lt_i hf h109 e111
  have F112 := FrA.alloc F109 hP e110 e111
  obtain ⟨a110, e113⟩ : ∃ z, z = (gN g101) := ⟨_, rfl⟩; replace hf := lt_i hf a110 e113
  replace hf := tg_i hf; obtain ⟨t114, hf⟩ := hf
  obtain ⟨h114, e115⟩ : ∃ z, z = (sR h109 this 47 (some a110)) := ⟨_, rfl⟩; replace hf := lt_i hf h114 e115
  have F116 := FrA.sR F112 P_this t114 (Or.inl (by decide)) (fun b hb => Option.some.inj hb ▸ (hP _ (e113 ▸ F109.1))) e115
  replace hf := (gq_i hf).2
  obtain ⟨g115, e117⟩ : ∃ z, z = (gA g108 20 16) := ⟨_, rfl⟩; replace hf := lt_i hf g115 e117
  obtain ⟨h116, e118⟩ : ∃ z, z = (hZ h114 (gN g108)) := ⟨_, rfl⟩; replace hf := lt_i hf h116 e118
  have F119 := FrA.alloc F116 hP e117 e118
  obtain ⟨a117, e120⟩ : ∃ z, z = (gN g108) := ⟨_, rfl⟩; replace hf := lt_i hf a117 e120
  replace hf := tg_i hf; obtain ⟨t121, hf⟩ := hf
  obtain ⟨h121, e122⟩ : ∃ z, z = (sR h116 this 50 (some a117)) := ⟨_, rfl⟩; replace hf := lt_i hf h121 e122
  have F123 := FrA.sR F119 P_this t121 (Or.inl (by decide)) (fun b hb => Option.some.inj hb ▸ (hP _ (e120 ▸ F116.1))) e122
  exact pX13_init_l153_fr hP P_this _ _ _ _ F123 hf
