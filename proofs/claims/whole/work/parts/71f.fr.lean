/-! what functions leave as it was (written by wip/whole/frames.py) -/
set_option maxRecDepth 10000 in
set_option maxHeartbeats 2000000 in
theorem pX13_doOne_b74_fr {P : Nat → Prop} {g : MT} {fO : CT → Nat → Int32 → Int32 → Option CT} {this : Nat} {p1 : Int32} {l2 : Int32} {h : CT} {h0 : CT} {h9 : CT} (t0 : gT g this = 12) (hO : ∀ (v0 : CT) (v1 : Nat) (v2 : Int32) (v3 : Int32) (v9 : CT), Cl P v0 → P v1 → fO v0 v1 v2 v3 = some v9 → FrC P [(12, 29), (12, 30), (12, 31), (12, 32), (12, 33), (12, 34), (12, 35), (12, 36), (12, 37), (12, 38), (12, 39), (12, 40), (12, 42), (12, 44), (20, 1000), (22, 5000)] g v0 v9) (P_this : P this) (F0 : FrC P [(12, 29), (12, 30), (12, 31), (12, 32), (12, 33), (12, 34), (12, 35), (12, 36), (12, 37), (12, 38), (12, 39), (12, 40), (12, 42), (12, 44), (20, 1000), (22, 5000)] g h0 h) (hf : pX13_doOne_b74 g fO this p1 l2 h = some h9) : FrC P [(12, 29), (12, 30), (12, 31), (12, 32), (12, 33), (12, 34), (12, 35), (12, 36), (12, 37), (12, 38), (12, 39), (12, 40), (12, 42), (12, 44), (20, 1000), (22, 5000)] g h0 h9 := by
  unfold pX13_doOne_b74 at hf
  exact pX13_doOne_b152_fr t0 hO P_this F0 hf
set_option maxRecDepth 10000 in
set_option maxHeartbeats 2000000 in
theorem pX13_doOne_fr {P : Nat → Prop} {g : MT} {fO : CT → Nat → Int32 → Int32 → Option CT} {h : CT} {this : Nat} {p1 : Int32} {h9 : CT} (hO : ∀ (v0 : CT) (v1 : Nat) (v2 : Int32) (v3 : Int32) (v9 : CT), Cl P v0 → P v1 → fO v0 v1 v2 v3 = some v9 → FrC P [(12, 29), (12, 30), (12, 31), (12, 32), (12, 33), (12, 34), (12, 35), (12, 36), (12, 37), (12, 38), (12, 39), (12, 40), (12, 42), (12, 44), (20, 1000), (22, 5000)] g v0 v9) (hc : Cl P h) (P_this : P this) (hf : pX13_doOne g fO h this p1 = some h9) : FrC P [(12, 29), (12, 30), (12, 31), (12, 32), (12, 33), (12, 34), (12, 35), (12, 36), (12, 37), (12, 38), (12, 39), (12, 40), (12, 42), (12, 44), (20, 1000), (22, 5000)] g h h9 := by
  have F0 : FrC P [(12, 29), (12, 30), (12, 31), (12, 32), (12, 33), (12, 34), (12, 35), (12, 36), (12, 37), (12, 38), (12, 39), (12, 40), (12, 42), (12, 44), (20, 1000), (22, 5000)] g h h := FrC.rf hc
  unfold pX13_doOne at hf
  replace hf := tg_i hf; obtain ⟨t1, hf⟩ := hf
  replace hf := bd_i hf; obtain ⟨x1, q2, hf⟩ := hf
  replace hf := bd_i hf; obtain ⟨x3, q3, hf⟩ := hf
  replace hf := bd_i hf; obtain ⟨h5, q4, hf⟩ := hf
  have F5 := FrC.trans F0 (pX13_begins_fr F0.1 P_this q4) (by decide)
  obtain ⟨r7, e6⟩ : ∃ z, z = (hR h5 this 27) := ⟨_, rfl⟩; replace hf := lt_i hf r7 e6
  replace hf := nn_i hf; obtain ⟨a7, e7, hf⟩ := hf
  replace hf := tg_i hf; obtain ⟨t8, hf⟩ := hf
  replace hf := (ix_i hf).2
  obtain ⟨h10, e9⟩ : ∃ z, z = (sI h5 a7 (Int32.toNatClampNeg p1) x3) := ⟨_, rfl⟩; replace hf := lt_i hf h10 e9
  have F10 := FrC.sI F5 ((fun b hb => F5.1 _ _ b P_this (e6.symm.trans hb)) _ e7) t8 (Or.inr (by decide)) e9
  obtain ⟨r11, e11⟩ : ∃ z, z = (hR h10 this 28) := ⟨_, rfl⟩; replace hf := lt_i hf r11 e11
  replace hf := nn_i hf; obtain ⟨a11, e12, hf⟩ := hf
  replace hf := tg_i hf; obtain ⟨t13, hf⟩ := hf
  replace hf := (ix_i hf).2
  obtain ⟨h14, e14⟩ : ∃ z, z = (sI h10 a11 (Int32.toNatClampNeg p1) (-1)) := ⟨_, rfl⟩; replace hf := lt_i hf h14 e14
  have F15 := FrC.sI F10 ((fun b hb => F10.1 _ _ b P_this (e11.symm.trans hb)) _ e12) t13 (Or.inr (by decide)) e14
  by_cases c16 : (pX13_unitOf x1) < 0
  · rw [if_pos c16] at hf
    by_cases c17 : (pX13_isFolded x1) = 0
    · rw [if_pos c17] at hf
      by_cases c18 : x1 = 22
      · rw [if_pos c18] at hf
        replace hf := bd_i hf; obtain ⟨h30, q19, hf⟩ := hf
        have F20 := FrC.trans F15 (pX13_counts_fr F15.1 P_this q19) (by decide)
        exact pX13_doOne_b152_fr t1 hO P_this F20 hf
      · rw [if_neg c18] at hf
        by_cases c21 : x1 = 20
        · rw [if_pos c21] at hf
          replace hf := bd_i hf; obtain ⟨h28, q22, hf⟩ := hf
          have F23 := FrC.trans F15 (pX13_flips_fr F15.1 P_this q22) (by decide)
          exact pX13_doOne_b152_fr t1 hO P_this F23 hf
        · rw [if_neg c21] at hf
          by_cases c24 : x1 = 0
          · rw [if_pos c24] at hf
            obtain ⟨r22, e25⟩ : ∃ z, z = (hR h14 this 19) := ⟨_, rfl⟩; replace hf := lt_i hf r22 e25
            replace hf := bd_i hf; obtain ⟨x23, q26, hf⟩ := hf
            replace hf := nn_i hf; obtain ⟨a22, e27, hf⟩ := hf
            replace hf := tg_i hf; obtain ⟨t28, hf⟩ := hf
            replace hf := (ix_i hf).2
            obtain ⟨h27, e29⟩ : ∃ z, z = (sI h14 a22 (Int32.toNatClampNeg 0) x23) := ⟨_, rfl⟩; replace hf := lt_i hf h27 e29
            have F30 := FrC.sI F15 ((fun b hb => F15.1 _ _ b P_this (e25.symm.trans hb)) _ e27) t28 (Or.inr (by decide)) e29
            exact pX13_doOne_b152_fr t1 hO P_this F30 hf
          · rw [if_neg c24] at hf
            by_cases c31 : x1 = 26
            · rw [if_pos c31] at hf
              obtain ⟨h21, e32⟩ : ∃ z, z = (sI h14 this 40 1) := ⟨_, rfl⟩; replace hf := lt_i hf h21 e32
              have F33 := FrC.sI F15 P_this t1 (Or.inl (by decide)) e32
              exact pX13_doOne_b152_fr t1 hO P_this F33 hf
            · rw [if_neg c31] at hf
              exact pX13_doOne_b152_fr t1 hO P_this F15 hf
    · rw [if_neg c17] at hf
      replace hf := bd_i hf; obtain ⟨h32, q34, hf⟩ := hf
      have F35 := FrC.trans F15 (pX13_folds_fr F15.1 P_this q34) (by decide)
      exact pX13_doOne_b152_fr t1 hO P_this F35 hf
  · rw [if_neg c16] at hf
    replace hf := bd2_i hf; obtain ⟨x36, h34, q36, hf⟩ := hf
    have F37 := FrC.trans F15 (pX13_elements_fr F15.1 P_this q36) (by decide)
    obtain ⟨r37, e38⟩ : ∃ z, z = (hR h34 this 28) := ⟨_, rfl⟩; replace hf := lt_i hf r37 e38
    replace hf := nn_i hf; obtain ⟨a37, e39, hf⟩ := hf
    replace hf := tg_i hf; obtain ⟨t40, hf⟩ := hf
    replace hf := (ix_i hf).2
    obtain ⟨h40, e41⟩ : ∃ z, z = (sI h34 a37 (Int32.toNatClampNeg p1) x36) := ⟨_, rfl⟩; replace hf := lt_i hf h40 e41
    have F42 := FrC.sI F37 ((fun b hb => F37.1 _ _ b P_this (e38.symm.trans hb)) _ e39) t40 (Or.inr (by decide)) e41
    by_cases c43 : x36 < 0
    · rw [if_pos c43] at hf
      exact pX13_doOne_b74_fr t1 hO P_this F42 hf
    · rw [if_neg c43] at hf
      by_cases c44 : (hI h40 this 37) = 0
      · rw [if_pos c44] at hf
        replace hf := bd_i hf; obtain ⟨h43, q45, hf⟩ := hf
        have F46 := FrC.trans F42 (pX13_settles_fr F42.1 P_this q45) (by decide)
        exact pX13_doOne_b74_fr t1 hO P_this F46 hf
      · rw [if_neg c44] at hf
        exact pX13_doOne_b74_fr t1 hO P_this F42 hf
set_option maxRecDepth 10000 in
set_option maxHeartbeats 2000000 in
theorem pX13_doAll_o_b43_fr {P : Nat → Prop} {g : MT} {fO : CT → Nat → Int32 → Int32 → Option CT} {this : Nat} {p1 : Int32} {p2 : Int32} {k2 : Int32 → CT → Option CT} {s0 : Int32} {h : CT} {h0 : CT} {h9 : CT} (t0 : gT g this = 12) (hO : ∀ (v0 : CT) (v1 : Nat) (v2 : Int32) (v3 : Int32) (v9 : CT), Cl P v0 → P v1 → fO v0 v1 v2 v3 = some v9 → FrC P [(12, 29), (12, 30), (12, 31), (12, 32), (12, 33), (12, 34), (12, 35), (12, 36), (12, 37), (12, 38), (12, 39), (12, 40), (12, 42), (12, 44), (20, 1000), (22, 5000)] g v0 v9) (P_this : P this) (hk2 : ∀ (v0 : Int32) (v1 : CT), FrC P [(12, 29), (12, 30), (12, 31), (12, 32), (12, 33), (12, 34), (12, 35), (12, 36), (12, 37), (12, 38), (12, 39), (12, 40), (12, 42), (12, 44), (20, 1000), (22, 5000)] g h0 v1 → k2 v0 v1 = some h9 → FrC P [(12, 29), (12, 30), (12, 31), (12, 32), (12, 33), (12, 34), (12, 35), (12, 36), (12, 37), (12, 38), (12, 39), (12, 40), (12, 42), (12, 44), (20, 1000), (22, 5000)] g h0 h9) (F0 : FrC P [(12, 29), (12, 30), (12, 31), (12, 32), (12, 33), (12, 34), (12, 35), (12, 36), (12, 37), (12, 38), (12, 39), (12, 40), (12, 42), (12, 44), (20, 1000), (22, 5000)] g h0 h) (hf : pX13_doAll_o_b43 g fO this p1 p2 k2 s0 h = some h9) : FrC P [(12, 29), (12, 30), (12, 31), (12, 32), (12, 33), (12, 34), (12, 35), (12, 36), (12, 37), (12, 38), (12, 39), (12, 40), (12, 42), (12, 44), (20, 1000), (22, 5000)] g h0 h9 := by
  unfold pX13_doAll_o_b43 at hf
  exact hk2 _ _ F0 hf
set_option maxRecDepth 10000 in
set_option maxHeartbeats 2000000 in
theorem pX13_doAll_o_b2_fr {P : Nat → Prop} {g : MT} {fO : CT → Nat → Int32 → Int32 → Option CT} {this : Nat} {p1 : Int32} {p2 : Int32} {k2 : Int32 → CT → Option CT} {l3 : Int32} {h : CT} {h0 : CT} {h9 : CT} (t0 : gT g this = 12) (hO : ∀ (v0 : CT) (v1 : Nat) (v2 : Int32) (v3 : Int32) (v9 : CT), Cl P v0 → P v1 → fO v0 v1 v2 v3 = some v9 → FrC P [(12, 29), (12, 30), (12, 31), (12, 32), (12, 33), (12, 34), (12, 35), (12, 36), (12, 37), (12, 38), (12, 39), (12, 40), (12, 42), (12, 44), (20, 1000), (22, 5000)] g v0 v9) (P_this : P this) (hk2 : ∀ (v0 : Int32) (v1 : CT), FrC P [(12, 29), (12, 30), (12, 31), (12, 32), (12, 33), (12, 34), (12, 35), (12, 36), (12, 37), (12, 38), (12, 39), (12, 40), (12, 42), (12, 44), (20, 1000), (22, 5000)] g h0 v1 → k2 v0 v1 = some h9 → FrC P [(12, 29), (12, 30), (12, 31), (12, 32), (12, 33), (12, 34), (12, 35), (12, 36), (12, 37), (12, 38), (12, 39), (12, 40), (12, 42), (12, 44), (20, 1000), (22, 5000)] g h0 h9) (F0 : FrC P [(12, 29), (12, 30), (12, 31), (12, 32), (12, 33), (12, 34), (12, 35), (12, 36), (12, 37), (12, 38), (12, 39), (12, 40), (12, 42), (12, 44), (20, 1000), (22, 5000)] g h0 h) (hf : pX13_doAll_o_b2 g fO this p1 p2 k2 l3 h = some h9) : FrC P [(12, 29), (12, 30), (12, 31), (12, 32), (12, 33), (12, 34), (12, 35), (12, 36), (12, 37), (12, 38), (12, 39), (12, 40), (12, 42), (12, 44), (20, 1000), (22, 5000)] g h0 h9 := by
  unfold pX13_doAll_o_b2 at hf
  by_cases c1 : p2 ≤ l3
  · rw [if_pos c1] at hf
    cases hf
    exact F0
  · rw [if_neg c1] at hf
    by_cases c2 : (hI h this 40) = 0
    · rw [if_pos c2] at hf
      replace hf := bd_i hf; obtain ⟨h3, q3, hf⟩ := hf
      have F4 := FrC.trans F0 (pX13_doOne_fr hO F0.1 P_this q3) (by decide)
      replace hf := bd_i hf; obtain ⟨x5, q5, hf⟩ := hf
      by_cases c6 : x5 = 25
      · rw [if_pos c6] at hf
        replace hf := bd_i hf; obtain ⟨x8, q7, hf⟩ := hf
        exact pX13_doAll_o_b43_fr t0 hO P_this hk2 F4 hf
      · rw [if_neg c6] at hf
        exact pX13_doAll_o_b43_fr t0 hO P_this hk2 F4 hf
    · rw [if_neg c2] at hf
      cases hf
      exact F0
set_option maxRecDepth 10000 in
set_option maxHeartbeats 2000000 in
theorem pX13_doAll_o_l2_fr {P : Nat → Prop} {g : MT} {fO : CT → Nat → Int32 → Int32 → Option CT} {this : Nat} {p1 : Int32} {p2 : Int32} {h0 : CT} {h9 : CT} (t0 : gT g this = 12) (hO : ∀ (v0 : CT) (v1 : Nat) (v2 : Int32) (v3 : Int32) (v9 : CT), Cl P v0 → P v1 → fO v0 v1 v2 v3 = some v9 → FrC P [(12, 29), (12, 30), (12, 31), (12, 32), (12, 33), (12, 34), (12, 35), (12, 36), (12, 37), (12, 38), (12, 39), (12, 40), (12, 42), (12, 44), (20, 1000), (22, 5000)] g v0 v9) (P_this : P this) : ∀ (n : Nat) (v1 : Int32) (v2 : CT), FrC P [(12, 29), (12, 30), (12, 31), (12, 32), (12, 33), (12, 34), (12, 35), (12, 36), (12, 37), (12, 38), (12, 39), (12, 40), (12, 42), (12, 44), (20, 1000), (22, 5000)] g h0 v2 → pX13_doAll_o_l2 g fO this p1 p2 n v1 v2 = some h9 → FrC P [(12, 29), (12, 30), (12, 31), (12, 32), (12, 33), (12, 34), (12, 35), (12, 36), (12, 37), (12, 38), (12, 39), (12, 40), (12, 42), (12, 44), (20, 1000), (22, 5000)] g h0 h9 := by
  intro n
  induction n with
  | zero => intro v1 v2 F0 hf; cases hf
  | succ n ih => intro v1 v2 F0 hf; exact pX13_doAll_o_b2_fr t0 hO P_this ih F0 hf
set_option maxRecDepth 10000 in
set_option maxHeartbeats 2000000 in
theorem pX13_doAll_o_fr {P : Nat → Prop} {g : MT} {fO : CT → Nat → Int32 → Int32 → Option CT} {h : CT} {this : Nat} {p1 : Int32} {p2 : Int32} {h9 : CT} (hO : ∀ (v0 : CT) (v1 : Nat) (v2 : Int32) (v3 : Int32) (v9 : CT), Cl P v0 → P v1 → fO v0 v1 v2 v3 = some v9 → FrC P [(12, 29), (12, 30), (12, 31), (12, 32), (12, 33), (12, 34), (12, 35), (12, 36), (12, 37), (12, 38), (12, 39), (12, 40), (12, 42), (12, 44), (20, 1000), (22, 5000)] g v0 v9) (hc : Cl P h) (P_this : P this) (hf : pX13_doAll_o g fO h this p1 p2 = some h9) : FrC P [(12, 29), (12, 30), (12, 31), (12, 32), (12, 33), (12, 34), (12, 35), (12, 36), (12, 37), (12, 38), (12, 39), (12, 40), (12, 42), (12, 44), (20, 1000), (22, 5000)] g h h9 := by
  have F0 : FrC P [(12, 29), (12, 30), (12, 31), (12, 32), (12, 33), (12, 34), (12, 35), (12, 36), (12, 37), (12, 38), (12, 39), (12, 40), (12, 42), (12, 44), (20, 1000), (22, 5000)] g h h := FrC.rf hc
  unfold pX13_doAll_o at hf
  replace hf := tg_i hf; obtain ⟨t1, hf⟩ := hf
  exact pX13_doAll_o_l2_fr t1 hO P_this _ _ _ F0 hf
theorem pX13_doAll_r_fr {P : Nat → Prop} {g : MT} : ∀ (n : Nat) (v0 : CT) (v1 : Nat) (v2 : Int32) (v3 : Int32) (v9 : CT), Cl P v0 → P v1 → pX13_doAll_r g n v0 v1 v2 v3 = some v9 → FrC P [(12, 29), (12, 30), (12, 31), (12, 32), (12, 33), (12, 34), (12, 35), (12, 36), (12, 37), (12, 38), (12, 39), (12, 40), (12, 42), (12, 44), (20, 1000), (22, 5000)] g v0 v9 := by
  intro n
  induction n with
  | zero => intro v0 v1 v2 v3 v9 hc P_ hf; cases hf
  | succ n ih => intro v0 v1 v2 v3 v9 hc P_ hf; exact pX13_doAll_o_fr ih hc P_ hf
theorem pX13_doAll_fr {P : Nat → Prop} {g : MT} {h : CT} {this : Nat} {p1 : Int32} {p2 : Int32} {h9 : CT} (hc : Cl P h) (P_this : P this) (hf : pX13_doAll g h this p1 p2 = some h9) : FrC P [(12, 29), (12, 30), (12, 31), (12, 32), (12, 33), (12, 34), (12, 35), (12, 36), (12, 37), (12, 38), (12, 39), (12, 40), (12, 42), (12, 44), (20, 1000), (22, 5000)] g h h9 := FrC.sub (pX13_doAll_r_fr RFUEL _ _ _ _ _ hc P_this hf) (by decide)
set_option maxRecDepth 10000 in
set_option maxHeartbeats 2000000 in
theorem pX13_runs_b72_fr {P : Nat → Prop} {g : MT} {this : Nat} {k72 : Int32 → CT → Option CT} {l1 : Int32} {h : CT} {h0 : CT} {h9 : CT} (t0 : gT g this = 12) (P_this : P this) (hk72 : ∀ (v0 : Int32) (v1 : CT), FrC P [(12, 29), (12, 30), (12, 31), (12, 32), (12, 33), (12, 34), (12, 35), (12, 36), (12, 37), (12, 38), (12, 39), (12, 40), (12, 42), (12, 44), (20, 1000), (22, 5000)] g h0 v1 → k72 v0 v1 = some h9 → FrC P [(12, 29), (12, 30), (12, 31), (12, 32), (12, 33), (12, 34), (12, 35), (12, 36), (12, 37), (12, 38), (12, 39), (12, 40), (12, 42), (12, 44), (20, 1000), (22, 5000)] g h0 h9) (F0 : FrC P [(12, 29), (12, 30), (12, 31), (12, 32), (12, 33), (12, 34), (12, 35), (12, 36), (12, 37), (12, 38), (12, 39), (12, 40), (12, 42), (12, 44), (20, 1000), (22, 5000)] g h0 h) (hf : pX13_runs_b72 g this k72 l1 h = some h9) : FrC P [(12, 29), (12, 30), (12, 31), (12, 32), (12, 33), (12, 34), (12, 35), (12, 36), (12, 37), (12, 38), (12, 39), (12, 40), (12, 42), (12, 44), (20, 1000), (22, 5000)] g h0 h9 := by
  unfold pX13_runs_b72 at hf
  by_cases c1 : 30 ≤ l1
  · rw [if_pos c1] at hf
    obtain ⟨h2, e2⟩ : ∃ z, z = (sI h this 29 0) := ⟨_, rfl⟩; replace hf := lt_i hf h2 e2
    have F3 := FrC.sI F0 P_this t0 (Or.inl (by decide)) e2
    obtain ⟨h3, e4⟩ : ∃ z, z = (sI h2 this 30 0) := ⟨_, rfl⟩; replace hf := lt_i hf h3 e4
    have F5 := FrC.sI F3 P_this t0 (Or.inl (by decide)) e4
    obtain ⟨h4, e6⟩ : ∃ z, z = (sI h3 this 31 0) := ⟨_, rfl⟩; replace hf := lt_i hf h4 e6
    have F7 := FrC.sI F5 P_this t0 (Or.inl (by decide)) e6
    obtain ⟨h5, e8⟩ : ∃ z, z = (sI h4 this 32 (-1)) := ⟨_, rfl⟩; replace hf := lt_i hf h5 e8
    have F9 := FrC.sI F7 P_this t0 (Or.inl (by decide)) e8
    obtain ⟨h6, e10⟩ : ∃ z, z = (sI h5 this 33 0) := ⟨_, rfl⟩; replace hf := lt_i hf h6 e10
    have F11 := FrC.sI F9 P_this t0 (Or.inl (by decide)) e10
    obtain ⟨h7, e12⟩ : ∃ z, z = (sI h6 this 34 0) := ⟨_, rfl⟩; replace hf := lt_i hf h7 e12
    have F13 := FrC.sI F11 P_this t0 (Or.inl (by decide)) e12
    obtain ⟨h8, e14⟩ : ∃ z, z = (sI h7 this 35 0) := ⟨_, rfl⟩; replace hf := lt_i hf h8 e14
    have F15 := FrC.sI F13 P_this t0 (Or.inl (by decide)) e14
    obtain ⟨h9, e16⟩ : ∃ z, z = (sI h8 this 36 0) := ⟨_, rfl⟩; replace hf := lt_i hf h9 e16
    have F17 := FrC.sI F15 P_this t0 (Or.inl (by decide)) e16
    obtain ⟨h10, e18⟩ : ∃ z, z = (sI h9 this 37 0) := ⟨_, rfl⟩; replace hf := lt_i hf h10 e18
    have F19 := FrC.sI F17 P_this t0 (Or.inl (by decide)) e18
    obtain ⟨h11, e20⟩ : ∃ z, z = (sI h10 this 40 0) := ⟨_, rfl⟩; replace hf := lt_i hf h11 e20
    have F21 := FrC.sI F19 P_this t0 (Or.inl (by decide)) e20
    obtain ⟨r12, e22⟩ : ∃ z, z = (hR h11 this 19) := ⟨_, rfl⟩; replace hf := lt_i hf r12 e22
    replace hf := nn_i hf; obtain ⟨a12, e23, hf⟩ := hf
    replace hf := tg_i hf; obtain ⟨t24, hf⟩ := hf
    replace hf := (ix_i hf).2
    replace hf := bd_i hf; obtain ⟨h15, q25, hf⟩ := hf
    have F26 := FrC.trans F21 (pX13_doAll_fr F21.1 P_this q25) (by decide)
    cases hf
    exact F26
  · rw [if_neg c1] at hf
    obtain ⟨r17, e27⟩ : ∃ z, z = (hR h this 27) := ⟨_, rfl⟩; replace hf := lt_i hf r17 e27
    replace hf := nn_i hf; obtain ⟨a17, e28, hf⟩ := hf
    replace hf := tg_i hf; obtain ⟨t29, hf⟩ := hf
    replace hf := (ix_i hf).2
    obtain ⟨h20, e30⟩ : ∃ z, z = (sI h a17 (Int32.toNatClampNeg l1) (-1)) := ⟨_, rfl⟩; replace hf := lt_i hf h20 e30
    have F31 := FrC.sI F0 ((fun b hb => F0.1 _ _ b P_this (e27.symm.trans hb)) _ e28) t29 (Or.inr (by decide)) e30
    obtain ⟨x21, e32⟩ : ∃ z, z = (l1 + 1) := ⟨_, rfl⟩; replace hf := lt_i hf x21 e32
    exact hk72 _ _ F31 hf
set_option maxRecDepth 10000 in
set_option maxHeartbeats 2000000 in
theorem pX13_runs_l72_fr {P : Nat → Prop} {g : MT} {this : Nat} {h0 : CT} {h9 : CT} (t0 : gT g this = 12) (P_this : P this) : ∀ (n : Nat) (v1 : Int32) (v2 : CT), FrC P [(12, 29), (12, 30), (12, 31), (12, 32), (12, 33), (12, 34), (12, 35), (12, 36), (12, 37), (12, 38), (12, 39), (12, 40), (12, 42), (12, 44), (20, 1000), (22, 5000)] g h0 v2 → pX13_runs_l72 g this n v1 v2 = some h9 → FrC P [(12, 29), (12, 30), (12, 31), (12, 32), (12, 33), (12, 34), (12, 35), (12, 36), (12, 37), (12, 38), (12, 39), (12, 40), (12, 42), (12, 44), (20, 1000), (22, 5000)] g h0 h9 := by
  intro n
  induction n with
  | zero => intro v1 v2 F0 hf; cases hf
  | succ n ih => intro v1 v2 F0 hf; exact pX13_runs_b72_fr t0 P_this ih F0 hf
set_option maxRecDepth 10000 in
set_option maxHeartbeats 2000000 in
theorem pX13_runs_b50_fr {P : Nat → Prop} {g : MT} {this : Nat} {k50 : Int32 → CT → Option CT} {l1 : Int32} {h : CT} {h0 : CT} {h9 : CT} (t0 : gT g this = 12) (P_this : P this) (hk50 : ∀ (v0 : Int32) (v1 : CT), FrC P [(12, 29), (12, 30), (12, 31), (12, 32), (12, 33), (12, 34), (12, 35), (12, 36), (12, 37), (12, 38), (12, 39), (12, 40), (12, 42), (12, 44), (20, 1000), (22, 5000)] g h0 v1 → k50 v0 v1 = some h9 → FrC P [(12, 29), (12, 30), (12, 31), (12, 32), (12, 33), (12, 34), (12, 35), (12, 36), (12, 37), (12, 38), (12, 39), (12, 40), (12, 42), (12, 44), (20, 1000), (22, 5000)] g h0 h9) (F0 : FrC P [(12, 29), (12, 30), (12, 31), (12, 32), (12, 33), (12, 34), (12, 35), (12, 36), (12, 37), (12, 38), (12, 39), (12, 40), (12, 42), (12, 44), (20, 1000), (22, 5000)] g h0 h) (hf : pX13_runs_b50 g this k50 l1 h = some h9) : FrC P [(12, 29), (12, 30), (12, 31), (12, 32), (12, 33), (12, 34), (12, 35), (12, 36), (12, 37), (12, 38), (12, 39), (12, 40), (12, 42), (12, 44), (20, 1000), (22, 5000)] g h0 h9 := by
  unfold pX13_runs_b50 at hf
  by_cases c1 : 16 ≤ l1
  · rw [if_pos c1] at hf
    exact pX13_runs_l72_fr t0 P_this _ _ _ F0 hf
  · rw [if_neg c1] at hf
    obtain ⟨r2, e2⟩ : ∃ z, z = (hR h this 26) := ⟨_, rfl⟩; replace hf := lt_i hf r2 e2
    replace hf := nn_i hf; obtain ⟨a2, e3, hf⟩ := hf
    replace hf := tg_i hf; obtain ⟨t4, hf⟩ := hf
    replace hf := (ix_i hf).2
    obtain ⟨h5, e5⟩ : ∃ z, z = (sI h a2 (Int32.toNatClampNeg l1) (-12)) := ⟨_, rfl⟩; replace hf := lt_i hf h5 e5
    have F6 := FrC.sI F0 ((fun b hb => F0.1 _ _ b P_this (e2.symm.trans hb)) _ e3) t4 (Or.inr (by decide)) e5
    obtain ⟨x6, e7⟩ : ∃ z, z = (l1 + 1) := ⟨_, rfl⟩; replace hf := lt_i hf x6 e7
    exact hk50 _ _ F6 hf
set_option maxRecDepth 10000 in
set_option maxHeartbeats 2000000 in
theorem pX13_runs_l50_fr {P : Nat → Prop} {g : MT} {this : Nat} {h0 : CT} {h9 : CT} (t0 : gT g this = 12) (P_this : P this) : ∀ (n : Nat) (v1 : Int32) (v2 : CT), FrC P [(12, 29), (12, 30), (12, 31), (12, 32), (12, 33), (12, 34), (12, 35), (12, 36), (12, 37), (12, 38), (12, 39), (12, 40), (12, 42), (12, 44), (20, 1000), (22, 5000)] g h0 v2 → pX13_runs_l50 g this n v1 v2 = some h9 → FrC P [(12, 29), (12, 30), (12, 31), (12, 32), (12, 33), (12, 34), (12, 35), (12, 36), (12, 37), (12, 38), (12, 39), (12, 40), (12, 42), (12, 44), (20, 1000), (22, 5000)] g h0 h9 := by
  intro n
  induction n with
  | zero => intro v1 v2 F0 hf; cases hf
  | succ n ih => intro v1 v2 F0 hf; exact pX13_runs_b50_fr t0 P_this ih F0 hf
set_option maxRecDepth 10000 in
set_option maxHeartbeats 2000000 in
theorem pX13_runs_b30_fr {P : Nat → Prop} {g : MT} {this : Nat} {k30 : Int32 → CT → Option CT} {l1 : Int32} {h : CT} {h0 : CT} {h9 : CT} (t0 : gT g this = 12) (P_this : P this) (hk30 : ∀ (v0 : Int32) (v1 : CT), FrC P [(12, 29), (12, 30), (12, 31), (12, 32), (12, 33), (12, 34), (12, 35), (12, 36), (12, 37), (12, 38), (12, 39), (12, 40), (12, 42), (12, 44), (20, 1000), (22, 5000)] g h0 v1 → k30 v0 v1 = some h9 → FrC P [(12, 29), (12, 30), (12, 31), (12, 32), (12, 33), (12, 34), (12, 35), (12, 36), (12, 37), (12, 38), (12, 39), (12, 40), (12, 42), (12, 44), (20, 1000), (22, 5000)] g h0 h9) (F0 : FrC P [(12, 29), (12, 30), (12, 31), (12, 32), (12, 33), (12, 34), (12, 35), (12, 36), (12, 37), (12, 38), (12, 39), (12, 40), (12, 42), (12, 44), (20, 1000), (22, 5000)] g h0 h) (hf : pX13_runs_b30 g this k30 l1 h = some h9) : FrC P [(12, 29), (12, 30), (12, 31), (12, 32), (12, 33), (12, 34), (12, 35), (12, 36), (12, 37), (12, 38), (12, 39), (12, 40), (12, 42), (12, 44), (20, 1000), (22, 5000)] g h0 h9 := by
  unfold pX13_runs_b30 at hf
  by_cases c1 : 4 ≤ l1
  · rw [if_pos c1] at hf
    exact pX13_runs_l50_fr t0 P_this _ _ _ F0 hf
  · rw [if_neg c1] at hf
    obtain ⟨r2, e2⟩ : ∃ z, z = (hR h this 25) := ⟨_, rfl⟩; replace hf := lt_i hf r2 e2
    replace hf := nn_i hf; obtain ⟨a2, e3, hf⟩ := hf
    replace hf := tg_i hf; obtain ⟨t4, hf⟩ := hf
    replace hf := (ix_i hf).2
    obtain ⟨h5, e5⟩ : ∃ z, z = (sI h a2 (Int32.toNatClampNeg l1) 0) := ⟨_, rfl⟩; replace hf := lt_i hf h5 e5
    have F6 := FrC.sI F0 ((fun b hb => F0.1 _ _ b P_this (e2.symm.trans hb)) _ e3) t4 (Or.inr (by decide)) e5
    obtain ⟨x6, e7⟩ : ∃ z, z = (l1 + 1) := ⟨_, rfl⟩; replace hf := lt_i hf x6 e7
    exact hk30 _ _ F6 hf
set_option maxRecDepth 10000 in
set_option maxHeartbeats 2000000 in
theorem pX13_runs_l30_fr {P : Nat → Prop} {g : MT} {this : Nat} {h0 : CT} {h9 : CT} (t0 : gT g this = 12) (P_this : P this) : ∀ (n : Nat) (v1 : Int32) (v2 : CT), FrC P [(12, 29), (12, 30), (12, 31), (12, 32), (12, 33), (12, 34), (12, 35), (12, 36), (12, 37), (12, 38), (12, 39), (12, 40), (12, 42), (12, 44), (20, 1000), (22, 5000)] g h0 v2 → pX13_runs_l30 g this n v1 v2 = some h9 → FrC P [(12, 29), (12, 30), (12, 31), (12, 32), (12, 33), (12, 34), (12, 35), (12, 36), (12, 37), (12, 38), (12, 39), (12, 40), (12, 42), (12, 44), (20, 1000), (22, 5000)] g h0 h9 := by
  intro n
  induction n with
  | zero => intro v1 v2 F0 hf; cases hf
  | succ n ih => intro v1 v2 F0 hf; exact pX13_runs_b30_fr t0 P_this ih F0 hf
set_option maxRecDepth 10000 in
set_option maxHeartbeats 2000000 in
theorem pX13_runs_b2_fr {P : Nat → Prop} {g : MT} {this : Nat} {k2 : Int32 → CT → Option CT} {l1 : Int32} {h : CT} {h0 : CT} {h9 : CT} (t0 : gT g this = 12) (P_this : P this) (hk2 : ∀ (v0 : Int32) (v1 : CT), FrC P [(12, 29), (12, 30), (12, 31), (12, 32), (12, 33), (12, 34), (12, 35), (12, 36), (12, 37), (12, 38), (12, 39), (12, 40), (12, 42), (12, 44), (20, 1000), (22, 5000)] g h0 v1 → k2 v0 v1 = some h9 → FrC P [(12, 29), (12, 30), (12, 31), (12, 32), (12, 33), (12, 34), (12, 35), (12, 36), (12, 37), (12, 38), (12, 39), (12, 40), (12, 42), (12, 44), (20, 1000), (22, 5000)] g h0 h9) (F0 : FrC P [(12, 29), (12, 30), (12, 31), (12, 32), (12, 33), (12, 34), (12, 35), (12, 36), (12, 37), (12, 38), (12, 39), (12, 40), (12, 42), (12, 44), (20, 1000), (22, 5000)] g h0 h) (hf : pX13_runs_b2 g this k2 l1 h = some h9) : FrC P [(12, 29), (12, 30), (12, 31), (12, 32), (12, 33), (12, 34), (12, 35), (12, 36), (12, 37), (12, 38), (12, 39), (12, 40), (12, 42), (12, 44), (20, 1000), (22, 5000)] g h0 h9 := by
  unfold pX13_runs_b2 at hf
  by_cases c1 : 96 ≤ l1
  · rw [if_pos c1] at hf
    exact pX13_runs_l30_fr t0 P_this _ _ _ F0 hf
  · rw [if_neg c1] at hf
    obtain ⟨r2, e2⟩ : ∃ z, z = (hR h this 23) := ⟨_, rfl⟩; replace hf := lt_i hf r2 e2
    replace hf := nn_i hf; obtain ⟨a2, e3, hf⟩ := hf
    replace hf := tg_i hf; obtain ⟨t4, hf⟩ := hf
    replace hf := (ix_i hf).2
    obtain ⟨h5, e5⟩ : ∃ z, z = (sI h a2 (Int32.toNatClampNeg l1) 0) := ⟨_, rfl⟩; replace hf := lt_i hf h5 e5
    have F6 := FrC.sI F0 ((fun b hb => F0.1 _ _ b P_this (e2.symm.trans hb)) _ e3) t4 (Or.inr (by decide)) e5
    obtain ⟨r6, e7⟩ : ∃ z, z = (hR h5 this 24) := ⟨_, rfl⟩; replace hf := lt_i hf r6 e7
    replace hf := nn_i hf; obtain ⟨a6, e8, hf⟩ := hf
    replace hf := tg_i hf; obtain ⟨t9, hf⟩ := hf
    replace hf := (ix_i hf).2
    obtain ⟨h9, e10⟩ : ∃ z, z = (sI h5 a6 (Int32.toNatClampNeg l1) 0) := ⟨_, rfl⟩; replace hf := lt_i hf h9 e10
    have F11 := FrC.sI F6 ((fun b hb => F6.1 _ _ b P_this (e7.symm.trans hb)) _ e8) t9 (Or.inr (by decide)) e10
    obtain ⟨x10, e12⟩ : ∃ z, z = (l1 + 1) := ⟨_, rfl⟩; replace hf := lt_i hf x10 e12
    exact hk2 _ _ F11 hf
set_option maxRecDepth 10000 in
set_option maxHeartbeats 2000000 in
theorem pX13_runs_l2_fr {P : Nat → Prop} {g : MT} {this : Nat} {h0 : CT} {h9 : CT} (t0 : gT g this = 12) (P_this : P this) : ∀ (n : Nat) (v1 : Int32) (v2 : CT), FrC P [(12, 29), (12, 30), (12, 31), (12, 32), (12, 33), (12, 34), (12, 35), (12, 36), (12, 37), (12, 38), (12, 39), (12, 40), (12, 42), (12, 44), (20, 1000), (22, 5000)] g h0 v2 → pX13_runs_l2 g this n v1 v2 = some h9 → FrC P [(12, 29), (12, 30), (12, 31), (12, 32), (12, 33), (12, 34), (12, 35), (12, 36), (12, 37), (12, 38), (12, 39), (12, 40), (12, 42), (12, 44), (20, 1000), (22, 5000)] g h0 h9 := by
  intro n
  induction n with
  | zero => intro v1 v2 F0 hf; cases hf
  | succ n ih => intro v1 v2 F0 hf; exact pX13_runs_b2_fr t0 P_this ih F0 hf
set_option maxRecDepth 10000 in
set_option maxHeartbeats 2000000 in
theorem pX13_runs_fr {P : Nat → Prop} {g : MT} {h : CT} {this : Nat} {h9 : CT} (hc : Cl P h) (P_this : P this) (hf : pX13_runs g h this = some h9) : FrC P [(12, 29), (12, 30), (12, 31), (12, 32), (12, 33), (12, 34), (12, 35), (12, 36), (12, 37), (12, 38), (12, 39), (12, 40), (12, 42), (12, 44), (20, 1000), (22, 5000)] g h h9 := by
  have F0 : FrC P [(12, 29), (12, 30), (12, 31), (12, 32), (12, 33), (12, 34), (12, 35), (12, 36), (12, 37), (12, 38), (12, 39), (12, 40), (12, 42), (12, 44), (20, 1000), (22, 5000)] g h h := FrC.rf hc
  unfold pX13_runs at hf
  replace hf := tg_i hf; obtain ⟨t1, hf⟩ := hf
  exact pX13_runs_l2_fr t1 P_this _ _ _ F0 hf
set_option maxRecDepth 10000 in
set_option maxHeartbeats 2000000 in
theorem pX13_run_b114_fr {P : Nat → Prop} {g : MT} {this : Nat} {k114 : Int32 → CT → Option ((Int32) × CT)} {l1 : Int32} {h : CT} {h0 : CT} {r9 : Int32} {h9 : CT} (t0 : gT g this = 12) (P_this : P this) (hk114 : ∀ (v0 : Int32) (v1 : CT), FrC P [(12, 0), (12, 1), (12, 22), (12, 29), (12, 30), (12, 31), (12, 32), (12, 33), (12, 34), (12, 35), (12, 36), (12, 37), (12, 38), (12, 39), (12, 40), (12, 41), (12, 42), (12, 44), (20, 1000), (22, 5000)] g h0 v1 → k114 v0 v1 = some (r9, h9) → FrC P [(12, 0), (12, 1), (12, 22), (12, 29), (12, 30), (12, 31), (12, 32), (12, 33), (12, 34), (12, 35), (12, 36), (12, 37), (12, 38), (12, 39), (12, 40), (12, 41), (12, 42), (12, 44), (20, 1000), (22, 5000)] g h0 h9) (F0 : FrC P [(12, 0), (12, 1), (12, 22), (12, 29), (12, 30), (12, 31), (12, 32), (12, 33), (12, 34), (12, 35), (12, 36), (12, 37), (12, 38), (12, 39), (12, 40), (12, 41), (12, 42), (12, 44), (20, 1000), (22, 5000)] g h0 h) (hf : pX13_run_b114 g this k114 l1 h = some (r9, h9)) : FrC P [(12, 0), (12, 1), (12, 22), (12, 29), (12, 30), (12, 31), (12, 32), (12, 33), (12, 34), (12, 35), (12, 36), (12, 37), (12, 38), (12, 39), (12, 40), (12, 41), (12, 42), (12, 44), (20, 1000), (22, 5000)] g h0 h9 := by
  unfold pX13_run_b114 at hf
  by_cases c1 : 30 ≤ l1
  · rw [if_pos c1] at hf
    obtain ⟨h2, e2⟩ : ∃ z, z = (sI h this 41 1) := ⟨_, rfl⟩; replace hf := lt_i hf h2 e2
    have F3 := FrC.sI F0 P_this t0 (Or.inl (by decide)) e2
    obtain ⟨h3, e4⟩ : ∃ z, z = (sI h2 this 22 1) := ⟨_, rfl⟩; replace hf := lt_i hf h3 e4
    have F5 := FrC.sI F3 P_this t0 (Or.inl (by decide)) e4
    by_cases c6 : (hI h3 this 37) ≤ 0
    · rw [if_pos c6] at hf
      cases hf
      exact F5
    · rw [if_neg c6] at hf
      replace hf := bd2_i hf; obtain ⟨x7, h5, q7, hf⟩ := hf
      have F8 := FrC.trans F5 (pX13_refuse_fr F5.1 P_this q7) (by decide)
      cases hf
      exact F8
  · rw [if_neg c1] at hf
    obtain ⟨r8, e9⟩ : ∃ z, z = (hR h this 46) := ⟨_, rfl⟩; replace hf := lt_i hf r8 e9
    obtain ⟨r9, e10⟩ : ∃ z, z = (hR h this 27) := ⟨_, rfl⟩; replace hf := lt_i hf r9 e10
    replace hf := nn_i hf; obtain ⟨a9, e11, hf⟩ := hf
    replace hf := tg_i hf; obtain ⟨t12, hf⟩ := hf
    replace hf := (ix_i hf).2
    replace hf := nn_i hf; obtain ⟨a8, e13, hf⟩ := hf
    replace hf := tg_i hf; obtain ⟨t14, hf⟩ := hf
    replace hf := (ix_i hf).2
    obtain ⟨h14, e15⟩ : ∃ z, z = (sI h a8 (Int32.toNatClampNeg l1) (hI h a9 (Int32.toNatClampNeg l1))) := ⟨_, rfl⟩; replace hf := lt_i hf h14 e15
    have F16 := FrC.sI F0 ((fun b hb => F0.1 _ _ b P_this (e9.symm.trans hb)) _ e13) t14 (Or.inr (by decide)) e15
    obtain ⟨r15, e17⟩ : ∃ z, z = (hR h14 this 47) := ⟨_, rfl⟩; replace hf := lt_i hf r15 e17
    obtain ⟨r16, e18⟩ : ∃ z, z = (hR h14 this 28) := ⟨_, rfl⟩; replace hf := lt_i hf r16 e18
    replace hf := nn_i hf; obtain ⟨a16, e19, hf⟩ := hf
    replace hf := tg_i hf; obtain ⟨t20, hf⟩ := hf
    replace hf := (ix_i hf).2
    replace hf := nn_i hf; obtain ⟨a15, e21, hf⟩ := hf
    replace hf := tg_i hf; obtain ⟨t22, hf⟩ := hf
    replace hf := (ix_i hf).2
    obtain ⟨h21, e23⟩ : ∃ z, z = (sI h14 a15 (Int32.toNatClampNeg l1) (hI h14 a16 (Int32.toNatClampNeg l1))) := ⟨_, rfl⟩; replace hf := lt_i hf h21 e23
    have F24 := FrC.sI F16 ((fun b hb => F16.1 _ _ b P_this (e17.symm.trans hb)) _ e21) t22 (Or.inr (by decide)) e23
    obtain ⟨x22, e25⟩ : ∃ z, z = (l1 + 1) := ⟨_, rfl⟩; replace hf := lt_i hf x22 e25
    exact hk114 _ _ F24 hf
set_option maxRecDepth 10000 in
set_option maxHeartbeats 2000000 in
theorem pX13_run_l114_fr {P : Nat → Prop} {g : MT} {this : Nat} {h0 : CT} {r9 : Int32} {h9 : CT} (t0 : gT g this = 12) (P_this : P this) : ∀ (n : Nat) (v1 : Int32) (v2 : CT), FrC P [(12, 0), (12, 1), (12, 22), (12, 29), (12, 30), (12, 31), (12, 32), (12, 33), (12, 34), (12, 35), (12, 36), (12, 37), (12, 38), (12, 39), (12, 40), (12, 41), (12, 42), (12, 44), (20, 1000), (22, 5000)] g h0 v2 → pX13_run_l114 g this n v1 v2 = some (r9, h9) → FrC P [(12, 0), (12, 1), (12, 22), (12, 29), (12, 30), (12, 31), (12, 32), (12, 33), (12, 34), (12, 35), (12, 36), (12, 37), (12, 38), (12, 39), (12, 40), (12, 41), (12, 42), (12, 44), (20, 1000), (22, 5000)] g h0 h9 := by
  intro n
  induction n with
  | zero => intro v1 v2 F0 hf; cases hf
  | succ n ih => intro v1 v2 F0 hf; exact pX13_run_b114_fr t0 P_this ih F0 hf
set_option maxRecDepth 10000 in
set_option maxHeartbeats 2000000 in
theorem pX13_run_b111_fr {P : Nat → Prop} {g : MT} {this : Nat} {r80 : Option Nat} {s1 : Int32} {s2 : Int32} {h : CT} {h0 : CT} {r9 : Int32} {h9 : CT} (t0 : gT g this = 12) (P_this : P this) (P_r80 : ∀ b, r80 = some b → P b) (F0 : FrC P [(12, 0), (12, 1), (12, 22), (12, 29), (12, 30), (12, 31), (12, 32), (12, 33), (12, 34), (12, 35), (12, 36), (12, 37), (12, 38), (12, 39), (12, 40), (12, 41), (12, 42), (12, 44), (20, 1000), (22, 5000)] g h0 h) (hf : pX13_run_b111 g this r80 s1 s2 h = some (r9, h9)) : FrC P [(12, 0), (12, 1), (12, 22), (12, 29), (12, 30), (12, 31), (12, 32), (12, 33), (12, 34), (12, 35), (12, 36), (12, 37), (12, 38), (12, 39), (12, 40), (12, 41), (12, 42), (12, 44), (20, 1000), (22, 5000)] g h0 h9 := by
  unfold pX13_run_b111 at hf
  replace hf := nn_i hf; obtain ⟨a80, e1, hf⟩ := hf
  replace hf := tg_i hf; obtain ⟨t2, hf⟩ := hf
  replace hf := (ix_i hf).2
  obtain ⟨h3, e3⟩ : ∃ z, z = (sI h a80 (Int32.toNatClampNeg s1) s2) := ⟨_, rfl⟩; replace hf := lt_i hf h3 e3
  have F4 := FrC.sI F0 (P_r80 _ e1) t2 (Or.inr (by decide)) e3
  exact pX13_run_l114_fr t0 P_this _ _ _ F4 hf
set_option maxRecDepth 10000 in
set_option maxHeartbeats 2000000 in
theorem pX13_run_b90_fr {P : Nat → Prop} {g : MT} {this : Nat} {r80 : Option Nat} {s1 : Int32} {s2 : Int32} {h : CT} {h0 : CT} {r9 : Int32} {h9 : CT} (t0 : gT g this = 12) (P_this : P this) (P_r80 : ∀ b, r80 = some b → P b) (F0 : FrC P [(12, 0), (12, 1), (12, 22), (12, 29), (12, 30), (12, 31), (12, 32), (12, 33), (12, 34), (12, 35), (12, 36), (12, 37), (12, 38), (12, 39), (12, 40), (12, 41), (12, 42), (12, 44), (20, 1000), (22, 5000)] g h0 h) (hf : pX13_run_b90 g this r80 s1 s2 h = some (r9, h9)) : FrC P [(12, 0), (12, 1), (12, 22), (12, 29), (12, 30), (12, 31), (12, 32), (12, 33), (12, 34), (12, 35), (12, 36), (12, 37), (12, 38), (12, 39), (12, 40), (12, 41), (12, 42), (12, 44), (20, 1000), (22, 5000)] g h0 h9 := by
  unfold pX13_run_b90 at hf
  replace hf := nn_i hf; obtain ⟨a80, e1, hf⟩ := hf
  replace hf := tg_i hf; obtain ⟨t2, hf⟩ := hf
  replace hf := (ix_i hf).2
  obtain ⟨h3, e3⟩ : ∃ z, z = (sI h a80 (Int32.toNatClampNeg s1) s2) := ⟨_, rfl⟩; replace hf := lt_i hf h3 e3
  have F4 := FrC.sI F0 (P_r80 _ e1) t2 (Or.inr (by decide)) e3
  obtain ⟨r4, e5⟩ : ∃ z, z = (hR h3 this 45) := ⟨_, rfl⟩; replace hf := lt_i hf r4 e5
  by_cases c6 : (hI h3 this 37) ≤ 0
  · rw [if_pos c6] at hf
    exact pX13_run_b111_fr t0 P_this (fun b hb => F4.1 _ _ b P_this (e5.symm.trans hb)) F4 hf
  · rw [if_neg c6] at hf
    exact pX13_run_b111_fr t0 P_this (fun b hb => F4.1 _ _ b P_this (e5.symm.trans hb)) F4 hf
set_option maxRecDepth 10000 in
set_option maxHeartbeats 2000000 in
theorem pX13_run_fr {P : Nat → Prop} {g : MT} {h : CT} {this : Nat} {r9 : Int32} {h9 : CT} (hc : Cl P h) (P_this : P this) (hf : pX13_run g h this = some (r9, h9)) : FrC P [(12, 0), (12, 1), (12, 22), (12, 29), (12, 30), (12, 31), (12, 32), (12, 33), (12, 34), (12, 35), (12, 36), (12, 37), (12, 38), (12, 39), (12, 40), (12, 41), (12, 42), (12, 44), (20, 1000), (22, 5000)] g h h9 := by
  have F0 : FrC P [(12, 0), (12, 1), (12, 22), (12, 29), (12, 30), (12, 31), (12, 32), (12, 33), (12, 34), (12, 35), (12, 36), (12, 37), (12, 38), (12, 39), (12, 40), (12, 41), (12, 42), (12, 44), (20, 1000), (22, 5000)] g h h := FrC.rf hc
  unfold pX13_run at hf
  replace hf := tg_i hf; obtain ⟨t1, hf⟩ := hf
  obtain ⟨h1, e2⟩ : ∃ z, z = (sI h this 1 0) := ⟨_, rfl⟩; replace hf := lt_i hf h1 e2
  have F3 := FrC.sI F0 P_this t1 (Or.inl (by decide)) e2
  obtain ⟨h2, e4⟩ : ∃ z, z = (sI h1 this 0 0) := ⟨_, rfl⟩; replace hf := lt_i hf h2 e4
  have F5 := FrC.sI F3 P_this t1 (Or.inl (by decide)) e4
  obtain ⟨r3, e6⟩ : ∃ z, z = (hR h2 this 19) := ⟨_, rfl⟩; replace hf := lt_i hf r3 e6
  replace hf := nn_i hf; obtain ⟨a3, e7, hf⟩ := hf
  replace hf := tg_i hf; obtain ⟨t8, hf⟩ := hf
  replace hf := (ix_i hf).2
  by_cases c9 : (hI h2 a3 (Int32.toNatClampNeg 5)) = 0
  · rw [if_pos c9] at hf
    replace hf := bd2_i hf; obtain ⟨x29, h27, q10, hf⟩ := hf
    have F11 := FrC.trans F5 (pX13_refuse_fr F5.1 P_this q10) (by decide)
    cases hf
    exact F11
  · rw [if_neg c9] at hf
    replace hf := bd_i hf; obtain ⟨h7, q12, hf⟩ := hf
    have F13 := FrC.trans F5 (pX13_runs_fr F5.1 P_this q12) (by decide)
    obtain ⟨r9, e14⟩ : ∃ z, z = (hR h7 this 45) := ⟨_, rfl⟩; replace hf := lt_i hf r9 e14
    replace hf := nn_i hf; obtain ⟨a9, e15, hf⟩ := hf
    replace hf := tg_i hf; obtain ⟨t16, hf⟩ := hf
    replace hf := (ix_i hf).2
    obtain ⟨h12, e17⟩ : ∃ z, z = (sI h7 a9 (Int32.toNatClampNeg 0) (hI h7 this 34)) := ⟨_, rfl⟩; replace hf := lt_i hf h12 e17
    have F18 := FrC.sI F13 ((fun b hb => F13.1 _ _ b P_this (e14.symm.trans hb)) _ e15) t16 (Or.inr (by decide)) e17
    obtain ⟨r13, e19⟩ : ∃ z, z = (hR h12 this 45) := ⟨_, rfl⟩; replace hf := lt_i hf r13 e19
    replace hf := nn_i hf; obtain ⟨a13, e20, hf⟩ := hf
    replace hf := tg_i hf; obtain ⟨t21, hf⟩ := hf
    replace hf := (ix_i hf).2
    obtain ⟨h16, e22⟩ : ∃ z, z = (sI h12 a13 (Int32.toNatClampNeg 1) (hI h12 this 35)) := ⟨_, rfl⟩; replace hf := lt_i hf h16 e22
    have F23 := FrC.sI F18 ((fun b hb => F18.1 _ _ b P_this (e19.symm.trans hb)) _ e20) t21 (Or.inr (by decide)) e22
    obtain ⟨r17, e24⟩ : ∃ z, z = (hR h16 this 45) := ⟨_, rfl⟩; replace hf := lt_i hf r17 e24
    replace hf := nn_i hf; obtain ⟨a17, e25, hf⟩ := hf
    replace hf := tg_i hf; obtain ⟨t26, hf⟩ := hf
    replace hf := (ix_i hf).2
    obtain ⟨h20, e27⟩ : ∃ z, z = (sI h16 a17 (Int32.toNatClampNeg 2) (hI h16 this 36)) := ⟨_, rfl⟩; replace hf := lt_i hf h20 e27
    have F28 := FrC.sI F23 ((fun b hb => F23.1 _ _ b P_this (e24.symm.trans hb)) _ e25) t26 (Or.inr (by decide)) e27
    obtain ⟨r21, e29⟩ : ∃ z, z = (hR h20 this 45) := ⟨_, rfl⟩; replace hf := lt_i hf r21 e29
    replace hf := nn_i hf; obtain ⟨a21, e30, hf⟩ := hf
    replace hf := tg_i hf; obtain ⟨t31, hf⟩ := hf
    replace hf := (ix_i hf).2
    obtain ⟨h24, e32⟩ : ∃ z, z = (sI h20 a21 (Int32.toNatClampNeg 3) (hI h20 this 37)) := ⟨_, rfl⟩; replace hf := lt_i hf h24 e32
    have F33 := FrC.sI F28 ((fun b hb => F28.1 _ _ b P_this (e29.symm.trans hb)) _ e30) t31 (Or.inr (by decide)) e32
    obtain ⟨r25, e34⟩ : ∃ z, z = (hR h24 this 45) := ⟨_, rfl⟩; replace hf := lt_i hf r25 e34
    by_cases c35 : (hI h24 this 37) ≤ 0
    · rw [if_pos c35] at hf
      exact pX13_run_b90_fr t1 P_this (fun b hb => F33.1 _ _ b P_this (e34.symm.trans hb)) F33 hf
    · rw [if_neg c35] at hf
      exact pX13_run_b90_fr t1 P_this (fun b hb => F33.1 _ _ b P_this (e34.symm.trans hb)) F33 hf
set_option maxRecDepth 10000 in
set_option maxHeartbeats 2000000 in
theorem pX13_cyclesAside_b36_fr {P : Nat → Prop} {g : MT} {this : Nat} {p1 : Int32} {s0 : Nat} {s1 : Int32} {s2 : Int32} {h : CT} {h0 : CT} {r9 : Int32} {h9 : CT} (t0 : gT g this = 12) (P_this : P this) (P_s0 : P s0) (F0 : FrC P [(12, 29), (12, 30), (12, 31), (12, 32), (12, 33), (12, 34), (12, 35), (12, 36), (12, 37), (12, 38), (12, 39), (12, 40), (12, 42), (12, 44), (12, 51), (20, 1000), (22, 5000)] g h0 h) (hf : pX13_cyclesAside_b36 g this p1 s0 s1 s2 h = some (r9, h9)) : FrC P [(12, 29), (12, 30), (12, 31), (12, 32), (12, 33), (12, 34), (12, 35), (12, 36), (12, 37), (12, 38), (12, 39), (12, 40), (12, 42), (12, 44), (12, 51), (20, 1000), (22, 5000)] g h0 h9 := by
  unfold pX13_cyclesAside_b36 at hf
  replace hf := (bz_i hf).2
  replace hf := tg_i hf; obtain ⟨t1, hf⟩ := hf
  obtain ⟨h3, e2⟩ : ∃ z, z = (sI h s0 51 (s1 ||| s2)) := ⟨_, rfl⟩; replace hf := lt_i hf h3 e2
  have F3 := FrC.sI F0 P_s0 t1 (Or.inl (by decide)) e2
  replace hf := bd_i hf; obtain ⟨h4, q4, hf⟩ := hf
  have F5 := FrC.trans F3 (pX13_copy_fr F3.1 P_this q4) (by decide)
  cases hf
  exact F5
set_option maxRecDepth 10000 in
set_option maxHeartbeats 2000000 in
theorem pX13_cyclesAside_b15_fr {P : Nat → Prop} {g : MT} {this : Nat} {p1 : Int32} {h : CT} {h0 : CT} {r9 : Int32} {h9 : CT} (t0 : gT g this = 12) (P_this : P this) (F0 : FrC P [(12, 29), (12, 30), (12, 31), (12, 32), (12, 33), (12, 34), (12, 35), (12, 36), (12, 37), (12, 38), (12, 39), (12, 40), (12, 42), (12, 44), (12, 51), (20, 1000), (22, 5000)] g h0 h) (hf : pX13_cyclesAside_b15 g this p1 h = some (r9, h9)) : FrC P [(12, 29), (12, 30), (12, 31), (12, 32), (12, 33), (12, 34), (12, 35), (12, 36), (12, 37), (12, 38), (12, 39), (12, 40), (12, 42), (12, 44), (12, 51), (20, 1000), (22, 5000)] g h0 h9 := by
  unfold pX13_cyclesAside_b15 at hf
  replace hf := bd_i hf; obtain ⟨h1, q1, hf⟩ := hf
  have F2 := FrC.trans F0 (pX13_runs_fr F0.1 P_this q1) (by decide)
  by_cases c3 : (hI h1 this 37) ≤ 0
  · rw [if_pos c3] at hf
    exact pX13_cyclesAside_b36_fr t0 P_this P_this F2 hf
  · rw [if_neg c3] at hf
    exact pX13_cyclesAside_b36_fr t0 P_this P_this F2 hf
set_option maxRecDepth 10000 in
set_option maxHeartbeats 2000000 in
theorem pX13_cyclesAside_fr {P : Nat → Prop} {g : MT} {h : CT} {this : Nat} {p1 : Int32} {r9 : Int32} {h9 : CT} (hc : Cl P h) (P_this : P this) (hf : pX13_cyclesAside g h this p1 = some (r9, h9)) : FrC P [(12, 29), (12, 30), (12, 31), (12, 32), (12, 33), (12, 34), (12, 35), (12, 36), (12, 37), (12, 38), (12, 39), (12, 40), (12, 42), (12, 44), (12, 51), (20, 1000), (22, 5000)] g h h9 := by
  have F0 : FrC P [(12, 29), (12, 30), (12, 31), (12, 32), (12, 33), (12, 34), (12, 35), (12, 36), (12, 37), (12, 38), (12, 39), (12, 40), (12, 42), (12, 44), (12, 51), (20, 1000), (22, 5000)] g h h := FrC.rf hc
  unfold pX13_cyclesAside at hf
  replace hf := tg_i hf; obtain ⟨t1, hf⟩ := hf
  replace hf := bd_i hf; obtain ⟨h1, q2, hf⟩ := hf
  have F3 := FrC.trans F0 (pX13_copy_fr F0.1 P_this q2) (by decide)
  by_cases c4 : p1 < 0
  · rw [if_pos c4] at hf
    exact pX13_cyclesAside_b15_fr t1 P_this F3 hf
  · rw [if_neg c4] at hf
    replace hf := bd_i hf; obtain ⟨h4, q5, hf⟩ := hf
    have F6 := FrC.trans F3 (pX13_exchanges_fr F3.1 P_this q5) (by decide)
    exact pX13_cyclesAside_b15_fr t1 P_this F6 hf
set_option maxRecDepth 10000 in
set_option maxHeartbeats 2000000 in
theorem pX13_gainOf_fr {P : Nat → Prop} {g : MT} {h : CT} {this : Nat} {p1 : Int32} {r9 : Int32} {h9 : CT} (hc : Cl P h) (P_this : P this) (hf : pX13_gainOf g h this p1 = some (r9, h9)) : FrC P [(12, 0), (12, 29), (12, 30), (12, 31), (12, 32), (12, 33), (12, 34), (12, 35), (12, 36), (12, 37), (12, 38), (12, 39), (12, 40), (12, 42), (12, 44), (12, 51), (20, 1000), (22, 5000)] g h h9 := by
  have F0 : FrC P [(12, 0), (12, 29), (12, 30), (12, 31), (12, 32), (12, 33), (12, 34), (12, 35), (12, 36), (12, 37), (12, 38), (12, 39), (12, 40), (12, 42), (12, 44), (12, 51), (20, 1000), (22, 5000)] g h h := FrC.rf hc
  unfold pX13_gainOf at hf
  replace hf := tg_i hf; obtain ⟨t1, hf⟩ := hf
  replace hf := bd_i hf; obtain ⟨x1, q2, hf⟩ := hf
  obtain ⟨h3, e3⟩ : ∃ z, z = (sI h this 0 x1) := ⟨_, rfl⟩; replace hf := lt_i hf h3 e3
  have F4 := FrC.sI F0 P_this t1 (Or.inl (by decide)) e3
  by_cases c5 : (hI h3 this 0) ≤ 0
  · rw [if_pos c5] at hf
    obtain ⟨h5, e6⟩ : ∃ z, z = (sI h3 this 51 0) := ⟨_, rfl⟩; replace hf := lt_i hf h5 e6
    have F7 := FrC.sI F4 P_this t1 (Or.inl (by decide)) e6
    replace hf := bd2_i hf; obtain ⟨x8, h6, q8, hf⟩ := hf
    have F9 := FrC.trans F7 (pX13_cyclesAside_fr F7.1 P_this q8) (by decide)
    replace hf := bd2_i hf; obtain ⟨x11, h9, q10, hf⟩ := hf
    have F11 := FrC.trans F9 (pX13_cyclesAside_fr F9.1 P_this q10) (by decide)
    by_cases c12 : (hI h9 this 51) = 0
    · rw [if_pos c12] at hf
      cases hf
      exact F11
    · rw [if_neg c12] at hf
      replace hf := bd2_i hf; obtain ⟨x15, h13, q13, hf⟩ := hf
      have F14 := FrC.trans F11 (pX13_refuse_fr F11.1 P_this q13) (by decide)
      cases hf
      exact F14
  · rw [if_neg c5] at hf
    cases hf
    exact F4
set_option maxRecDepth 10000 in
set_option maxHeartbeats 2000000 in
theorem pX13_swapGain_fr {P : Nat → Prop} {g : MT} {h : CT} {this : Nat} {p1 : Int32} {r9 : Int32} {h9 : CT} (hc : Cl P h) (P_this : P this) (hf : pX13_swapGain g h this p1 = some (r9, h9)) : FrC P [(12, 0), (12, 1), (12, 29), (12, 30), (12, 31), (12, 32), (12, 33), (12, 34), (12, 35), (12, 36), (12, 37), (12, 38), (12, 39), (12, 40), (12, 42), (12, 44), (12, 51), (20, 1000), (22, 5000)] g h h9 := by
  have F0 : FrC P [(12, 0), (12, 1), (12, 29), (12, 30), (12, 31), (12, 32), (12, 33), (12, 34), (12, 35), (12, 36), (12, 37), (12, 38), (12, 39), (12, 40), (12, 42), (12, 44), (12, 51), (20, 1000), (22, 5000)] g h h := FrC.rf hc
  unfold pX13_swapGain at hf
  replace hf := tg_i hf; obtain ⟨t1, hf⟩ := hf
  obtain ⟨h1, e2⟩ : ∃ z, z = (sI h this 1 0) := ⟨_, rfl⟩; replace hf := lt_i hf h1 e2
  have F3 := FrC.sI F0 P_this t1 (Or.inl (by decide)) e2
  replace hf := bd2_i hf; obtain ⟨x4, h2, q4, hf⟩ := hf
  have F5 := FrC.trans F3 (pX13_gainOf_fr F3.1 P_this q4) (by decide)
  cases hf
  exact F5
set_option maxRecDepth 10000 in
set_option maxHeartbeats 2000000 in
theorem pX13_bestSwap_b49_fr {P : Nat → Prop} {g : MT} {this : Nat} {k11 : Int32 → Int32 → Int32 → CT → Option ((Int32) × CT)} {l1 : Int32} {l2 : Int32} {l3 : Int32} {h : CT} {h0 : CT} {r9 : Int32} {h9 : CT} (t0 : gT g this = 12) (P_this : P this) (hk11 : ∀ (v0 : Int32) (v1 : Int32) (v2 : Int32) (v3 : CT), FrC P [(12, 0), (12, 1), (12, 29), (12, 30), (12, 31), (12, 32), (12, 33), (12, 34), (12, 35), (12, 36), (12, 37), (12, 38), (12, 39), (12, 40), (12, 42), (12, 44), (12, 51), (20, 1000), (22, 5000)] g h0 v3 → k11 v0 v1 v2 v3 = some (r9, h9) → FrC P [(12, 0), (12, 1), (12, 29), (12, 30), (12, 31), (12, 32), (12, 33), (12, 34), (12, 35), (12, 36), (12, 37), (12, 38), (12, 39), (12, 40), (12, 42), (12, 44), (12, 51), (20, 1000), (22, 5000)] g h0 h9) (F0 : FrC P [(12, 0), (12, 1), (12, 29), (12, 30), (12, 31), (12, 32), (12, 33), (12, 34), (12, 35), (12, 36), (12, 37), (12, 38), (12, 39), (12, 40), (12, 42), (12, 44), (12, 51), (20, 1000), (22, 5000)] g h0 h) (hf : pX13_bestSwap_b49 g this k11 l1 l2 l3 h = some (r9, h9)) : FrC P [(12, 0), (12, 1), (12, 29), (12, 30), (12, 31), (12, 32), (12, 33), (12, 34), (12, 35), (12, 36), (12, 37), (12, 38), (12, 39), (12, 40), (12, 42), (12, 44), (12, 51), (20, 1000), (22, 5000)] g h0 h9 := by
  unfold pX13_bestSwap_b49 at hf
  obtain ⟨x1, e1⟩ : ∃ z, z = (l3 + 1) := ⟨_, rfl⟩; replace hf := lt_i hf x1 e1
  exact hk11 _ _ _ _ F0 hf
set_option maxRecDepth 10000 in
set_option maxHeartbeats 2000000 in
theorem pX13_bestSwap_b11_fr {P : Nat → Prop} {g : MT} {this : Nat} {k11 : Int32 → Int32 → Int32 → CT → Option ((Int32) × CT)} {l1 : Int32} {l2 : Int32} {l3 : Int32} {h : CT} {h0 : CT} {r9 : Int32} {h9 : CT} (t0 : gT g this = 12) (P_this : P this) (hk11 : ∀ (v0 : Int32) (v1 : Int32) (v2 : Int32) (v3 : CT), FrC P [(12, 0), (12, 1), (12, 29), (12, 30), (12, 31), (12, 32), (12, 33), (12, 34), (12, 35), (12, 36), (12, 37), (12, 38), (12, 39), (12, 40), (12, 42), (12, 44), (12, 51), (20, 1000), (22, 5000)] g h0 v3 → k11 v0 v1 v2 v3 = some (r9, h9) → FrC P [(12, 0), (12, 1), (12, 29), (12, 30), (12, 31), (12, 32), (12, 33), (12, 34), (12, 35), (12, 36), (12, 37), (12, 38), (12, 39), (12, 40), (12, 42), (12, 44), (12, 51), (20, 1000), (22, 5000)] g h0 h9) (F0 : FrC P [(12, 0), (12, 1), (12, 29), (12, 30), (12, 31), (12, 32), (12, 33), (12, 34), (12, 35), (12, 36), (12, 37), (12, 38), (12, 39), (12, 40), (12, 42), (12, 44), (12, 51), (20, 1000), (22, 5000)] g h0 h) (hf : pX13_bestSwap_b11 g this k11 l1 l2 l3 h = some (r9, h9)) : FrC P [(12, 0), (12, 1), (12, 29), (12, 30), (12, 31), (12, 32), (12, 33), (12, 34), (12, 35), (12, 36), (12, 37), (12, 38), (12, 39), (12, 40), (12, 42), (12, 44), (12, 51), (20, 1000), (22, 5000)] g h0 h9 := by
  unfold pX13_bestSwap_b11 at hf
  obtain ⟨r1, e1⟩ : ∃ z, z = (hR h this 19) := ⟨_, rfl⟩; replace hf := lt_i hf r1 e1
  replace hf := nn_i hf; obtain ⟨a1, e2, hf⟩ := hf
  replace hf := tg_i hf; obtain ⟨t3, hf⟩ := hf
  replace hf := (ix_i hf).2
  by_cases c4 : (hI h a1 (Int32.toNatClampNeg 5)) ≤ l3
  · rw [if_pos c4] at hf
    obtain ⟨h5, e5⟩ : ∃ z, z = (sI h this 0 0) := ⟨_, rfl⟩; replace hf := lt_i hf h5 e5
    have F6 := FrC.sI F0 P_this t0 (Or.inl (by decide)) e5
    replace hf := bd2_i hf; obtain ⟨x8, h6, q7, hf⟩ := hf
    have F8 := FrC.trans F6 (pX13_answer_fr F6.1 P_this q7) (by decide)
    cases hf
    exact F8
  · rw [if_neg c4] at hf
    replace hf := bd2_i hf; obtain ⟨x11, h9, q9, hf⟩ := hf
    have F10 := FrC.trans F0 (pX13_gainOf_fr F0.1 P_this q9) (by decide)
    by_cases c11 : 0 < (hI h9 this 0)
    · rw [if_pos c11] at hf
      exact pX13_bestSwap_b49_fr t0 P_this hk11 F10 hf
    · rw [if_neg c11] at hf
      by_cases c12 : l2 < x11
      · rw [if_pos c12] at hf
        exact pX13_bestSwap_b49_fr t0 P_this hk11 F10 hf
      · rw [if_neg c12] at hf
        exact pX13_bestSwap_b49_fr t0 P_this hk11 F10 hf
set_option maxRecDepth 10000 in
set_option maxHeartbeats 2000000 in
theorem pX13_bestSwap_l11_fr {P : Nat → Prop} {g : MT} {this : Nat} {h0 : CT} {r9 : Int32} {h9 : CT} (t0 : gT g this = 12) (P_this : P this) : ∀ (n : Nat) (v1 : Int32) (v2 : Int32) (v3 : Int32) (v4 : CT), FrC P [(12, 0), (12, 1), (12, 29), (12, 30), (12, 31), (12, 32), (12, 33), (12, 34), (12, 35), (12, 36), (12, 37), (12, 38), (12, 39), (12, 40), (12, 42), (12, 44), (12, 51), (20, 1000), (22, 5000)] g h0 v4 → pX13_bestSwap_l11 g this n v1 v2 v3 v4 = some (r9, h9) → FrC P [(12, 0), (12, 1), (12, 29), (12, 30), (12, 31), (12, 32), (12, 33), (12, 34), (12, 35), (12, 36), (12, 37), (12, 38), (12, 39), (12, 40), (12, 42), (12, 44), (12, 51), (20, 1000), (22, 5000)] g h0 h9 := by
  intro n
  induction n with
  | zero => intro v1 v2 v3 v4 F0 hf; cases hf
  | succ n ih => intro v1 v2 v3 v4 F0 hf; exact pX13_bestSwap_b11_fr t0 P_this ih F0 hf
set_option maxRecDepth 10000 in
set_option maxHeartbeats 2000000 in
theorem pX13_bestSwap_fr {P : Nat → Prop} {g : MT} {h : CT} {this : Nat} {r9 : Int32} {h9 : CT} (hc : Cl P h) (P_this : P this) (hf : pX13_bestSwap g h this = some (r9, h9)) : FrC P [(12, 0), (12, 1), (12, 29), (12, 30), (12, 31), (12, 32), (12, 33), (12, 34), (12, 35), (12, 36), (12, 37), (12, 38), (12, 39), (12, 40), (12, 42), (12, 44), (12, 51), (20, 1000), (22, 5000)] g h h9 := by
  have F0 : FrC P [(12, 0), (12, 1), (12, 29), (12, 30), (12, 31), (12, 32), (12, 33), (12, 34), (12, 35), (12, 36), (12, 37), (12, 38), (12, 39), (12, 40), (12, 42), (12, 44), (12, 51), (20, 1000), (22, 5000)] g h h := FrC.rf hc
  unfold pX13_bestSwap at hf
  replace hf := tg_i hf; obtain ⟨t1, hf⟩ := hf
  obtain ⟨h1, e2⟩ : ∃ z, z = (sI h this 1 0) := ⟨_, rfl⟩; replace hf := lt_i hf h1 e2
  have F3 := FrC.sI F0 P_this t1 (Or.inl (by decide)) e2
  exact pX13_bestSwap_l11_fr t1 P_this _ _ _ _ _ F3 hf
