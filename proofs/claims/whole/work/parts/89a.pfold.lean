/-! folding by halves: both -/
section FLD
variable {B : Nat} {E : EC} {op : Nat → Nat} {g : MT} {h sr : CT}
def FW (B n : Nat) (h sr : CT) : Prop := ∀ i, i < n → NumR (hD h (B + 134) i) (hI h (B + 135) i) (hD sr (B + 200) i)
/-- what the class's folding touches -/
def FrF (B t : Nat) (h h' : CT) : Prop := hR h' = hR h ∧ ∀ y, y ≠ B + 134 → y ≠ B + 135 → y ≠ B + 137 → y ≠ B + t → Eqa h h' y
def FrG (B : Nat) (h h' : CT) : Prop := hR h' = hR h ∧ (∀ y, y ≠ B + 187 → y ≠ B + 200 → Eqa h h' y) ∧ (∀ j, j ≠ 44 → hI h' (B + 187) j = hI h (B + 187) j) ∧ hL h' (B + 187) = hL h (B + 187)
theorem FrF.rf (B t : Nat) (h : CT) : FrF B t h h := ⟨rfl, fun y _ _ _ _ => Eqa.rf h y⟩
theorem FrG.rf (B : Nat) (h : CT) : FrG B h h := ⟨rfl, fun y _ _ => Eqa.rf h y, fun _ _ => rfl, rfl⟩
theorem FrF.tr {B t : Nat} {h h1 h2 : CT} (x : FrF B t h h1) (y : FrF B t h1 h2) : FrF B t h h2 := ⟨y.1.trans x.1, fun z a b c d => (x.2 z a b c d).tr (y.2 z a b c d)⟩
theorem FrG.tr {B : Nat} {h h1 h2 : CT} (x : FrG B h h1) (y : FrG B h1 h2) : FrG B h h2 := ⟨y.1.trans x.1, fun z a b => (x.2.1 z a b).tr (y.2.1 z a b), fun j hj => (y.2.2.1 j hj).trans (x.2.2.1 j hj), y.2.2.2.trans x.2.2.2⟩
theorem FrG.sd {B k : Nat} {x : UInt64} (h : CT) : FrG B h (sD h (B + 200) k x) := ⟨rfl, fun y _ y2 => (Eqa.rf h y).sD y2, fun _ _ => rfl, rfl⟩
theorem FrG.s44 {B : Nat} {x : Int32} (h : CT) : FrG B h (sI h (B + 187) 44 x) := ⟨rfl, fun y y1 _ => (Eqa.rf h y).sI y1, fun j hj => by rw [hI_sI, if_pos rfl, ud_n hj], rfl⟩
theorem work_row (S : Sh B g) (p : PtC B (hR h)) : RowA g (hR h) (B + 133) 16 := ⟨st_133 S, pc_133_0 p, pc_133_1 p, st_134 S, sl_134 S, st_135 S, sl_135 S⟩
/-- one place of a pass -/
theorem fold_step (S : Sh B g) (p : PtC B (hR h)) (p2 : PtR B (hR sr)) {t : Nat} (ht : t = 136 ∨ t = 183 ∨ t = 184 ∨ t = 185 ∨ t = 186) {n l5 l6 j : Nat} {pr cc cr : Int32} {q : Nat} (hc : (cc = 0 ∧ ¬ cr = 0) ∨ (¬ cc = 0 ∧ cr = 0)) (hn : n ≤ 16) (hl : l5 ≤ n) (hj : j + l6 < l5) (F : FW B n h sr)
    {k11 : Int32 → CT → Option CT} {k28 : Int32 → Int32 → Int32 → CT → Option CT} {k42 : Int32 → CT → Option (UInt64 × CT)} {k59 : Int32 → Int32 → Int32 → CT → Option (UInt64 × CT)} :
    ∃ h' sr', pX9_halve_b28 g (B + 132) q (nI n) cc (B + t) k11 k28 (nI l5) (nI l6) (nI j) h = k28 (nI l5) (nI l6) (nI (j + 1)) h' ∧ pX13_folded_b59 g (B + 187) pr (nI n) cr k42 k59 (nI l5) (nI l6) (nI j) sr = k59 (nI l5) (nI l6) (nI (j + 1)) sr'
      ∧ FW B n h' sr' ∧ FrF B t h h' ∧ FrG B sr sr' ∧ is01 (hI h' (B + 137) 1) := by
  have Tt : gT g (B + t) = 4 := by
    rcases ht with rfl | rfl | rfl | rfl | rfl
    · exact st_136 S
    · exact st_183 S
    · exact st_184 S
    · exact st_185 S
    · exact st_186 S
  have N1 := F j (by omega)
  have N2 := F (j + l6) (by omega)
  have R := work_row S p
  have f1 := row_fetch (h := h) (p := B + t) R Tt (show j < 16 by omega) (by decide) N1.1
  have R1 : RowA g (hR (numW h (B + t) (hD h (B + 133 + 1) j) (hI h (B + 133 + 2) j))) (B + 133) 16 := R
  have d1 : hD (numW h (B + t) (hD h (B + 133 + 1) j) (hI h (B + 133 + 2) j)) (B + 133 + 1) = hD h (B + 134) := numW_D _ _ _ _ (by omega)
  have i1 : hI (numW h (B + t) (hD h (B + 133 + 1) j) (hI h (B + 133 + 2) j)) (B + 133 + 2) = hI h (B + 135) := numW_I _ _ _ _ (by omega)
  have f2 := row_fetch (h := numW h (B + t) (hD h (B + 133 + 1) j) (hI h (B + 133 + 2) j)) (p := B + 137) R1 (st_137 S) (show j + l6 < 16 by omega) (by decide) (by rw [i1]; exact N2.1)
  rw [d1, i1] at f2
  have e133 : hD h (B + 133 + 1) j = hD h (B + 134) j := rfl
  have e133' : hI h (B + 133 + 2) j = hI h (B + 135) j := rfl
  rw [e133, e133'] at f1 f2
  generalize hv : hD h (B + 134) j = v at *
  generalize ho : hI h (B + 135) j = o at *
  generalize hw : hD h (B + 134) (j + l6) = w at *
  generalize hp : hI h (B + 135) (j + l6) = u at *
  generalize hx : hD sr (B + 200) j = x at *
  generalize hy : hD sr (B + 200) (j + l6) = y at *
  have a1 : hD (numW (numW h (B + t) v o) (B + 137) w u) (B + t) 0 = v := by rw [numW_D _ _ _ _ (by omega), numW_d]
  have a2 : hI (numW (numW h (B + t) v o) (B + 137) w u) (B + t) 1 = o := by rw [numW_I _ _ _ _ (by omega), numW_i]
  have a3 : hD (numW (numW h (B + t) v o) (B + 137) w u) (B + 137) 0 = w := numW_d _ _ _ _
  have a4 : hI (numW (numW h (B + t) v o) (B + 137) w u) (B + 137) 1 = u := numW_i _ _ _ _
  -- the operation
  obtain ⟨c, e, z, o1, o2, N3⟩ : ∃ c e z, (if cc = 0 then pX4_plus g (numW (numW h (B + t) v o) (B + 137) w u) (B + t) (B + 137) else pX4_most g (numW (numW h (B + t) v o) (B + 137) w u) (B + t) (B + 137)) = some (numW (numW (numW h (B + t) v o) (B + 137) w u) (B + t) c e) ∧ z = (if cr = 0 then fmax x y else fadd x y) ∧ NumR c e z := by
    rcases hc with ⟨c1, c2⟩ | ⟨c1, c2⟩
    · have := n_plus (h := numW (numW h (B + t) v o) (B + 137) w u) Tt (st_137 S) (by rw [a1]; exact N1.2.1) (by rw [a3]; exact N2.2.1)
      rw [a1, a2, a3, a4] at this
      exact ⟨_, _, _, by rw [if_pos c1]; exact this, rfl, by rw [if_neg c2]; exact R_plus N1 N2⟩
    · have := n_most (h := numW (numW h (B + t) v o) (B + 137) w u) Tt (st_137 S) (by rw [a1]; exact N1.2.1) (by rw [a3]; exact N2.2.1)
      rw [a1, a2, a3, a4] at this
      exact ⟨_, _, _, by rw [if_neg c1]; exact this, rfl, by rw [if_pos c2]; exact R_most N1 N2⟩
  have kp := row_keep (h := numW (numW (numW h (B + t) v o) (B + 137) w u) (B + t) c e) (p := B + t) (show RowA g (hR (numW (numW (numW h (B + t) v o) (B + 137) w u) (B + t) c e)) (B + 133) 16 from R) Tt (show j < 16 by omega) (by decide) (by rw [numW_i]; exact N3.1)
  rw [numW_d, numW_i] at kp
  refine ⟨sI (sD (numW (numW (numW h (B + t) v o) (B + 137) w u) (B + t) c e) (B + 133 + 1) j c) (B + 133 + 2) j e, sD sr (B + 200) j z, ?_, ?_, fun i hi => ?_, ⟨rfl, fun y y1 y2 y3 y4 => (((((Eqa.rf h y).num y4).num y3).num y4).sD (by omega)).sI (by omega)⟩, FrG.sd sr, ?_⟩
  · unfold pX9_halve_b28
    have ge : ¬ (nI l5 - nI l6) ≤ nI j := by
      rw [pk_sub (show l6 ≤ l5 by omega)]
      exact nI_ge (by omega) (by omega)
    have r3 : ∀ h', hR h' = hR h → hR h' (B + 132) 3 = some (B + 137) := fun h' e => by rw [e]; exact pc_132_3 p
    have r1 : ∀ h', hR h' = hR h → hR h' (B + 132) 1 = some (B + 133) := fun h' e => by rw [e]; exact pc_132_1 p
    rw [if_neg ge, w_lt, pc_132_1 p, w_nn, w_tg (st_133 S), f1, w_bd, w_lt, w_lt, r1 (numW h (B + t) v o) rfl, r3 (numW h (B + t) v o) rfl, w_nn, w_tg (st_133 S), w_nn, show nI j + nI l6 = nI (j + l6) from nI_add j l6, f2, w_bd]
    have b90 : ∀ h', h' = numW (numW (numW h (B + t) v o) (B + 137) w u) (B + t) c e → pX9_halve_b90 g (B + 132) q (nI n) cc (B + t) k11 k28 (nI l5) (nI l6) (nI j) h' = k28 (nI l5) (nI l6) (nI (j + 1)) (sI (sD (numW (numW (numW h (B + t) v o) (B + 137) w u) (B + t) c e) (B + 133 + 1) j c) (B + 133 + 2) j e) := fun h' eh => by
      subst eh
      unfold pX9_halve_b90
      rw [w_lt, r1 (numW (numW (numW h (B + t) v o) (B + 137) w u) (B + t) c e) rfl, w_nn, w_tg (st_133 S), kp, w_bd, w_lt, nI_1]
    by_cases cz : cc = 0
    · rw [if_pos cz] at o1 ⊢
      rw [w_lt, r3 (numW (numW h (B + t) v o) (B + 137) w u) rfl, w_tg Tt, w_nn, o1, w_bd]
      exact b90 _ rfl
    · rw [if_neg cz] at o1 ⊢
      rw [w_lt, r3 (numW (numW h (B + t) v o) (B + 137) w u) rfl, w_tg Tt, w_nn, o1, w_bd]
      exact b90 _ rfl
  · unfold pX13_folded_b59 pX13_folded_b120
    have ge : ¬ (nI l5 - nI l6) ≤ nI j := by
      rw [pk_sub (show l6 ≤ l5 by omega)]
      exact nI_ge (by omega) (by omega)
    simp only [if_neg ge, w_lt, pr_187_43 p2, w_nn, w_tg (st_200 S), sl_200 S, show nI j + nI l6 = nI (j + l6) from nI_add j l6, w_ix (show j < 16 by omega) (show 16 < 2 ^ 31 by decide), w_ix (show j + l6 < 16 by omega) (show 16 < 2 ^ 31 by decide), nI_clamp (show j < 2 ^ 31 by omega), nI_clamp (show j + l6 < 2 ^ 31 by omega), hx, hy, nI_1]
    rw [o2]
    by_cases cz : cr = 0
    · simp only [if_pos cz]
    · simp only [if_neg cz]
  · have dd : hD (sI (sD (numW (numW (numW h (B + t) v o) (B + 137) w u) (B + t) c e) (B + 133 + 1) j c) (B + 133 + 2) j e) (B + 134) = ud (hD h (B + 134)) j c := by
      rw [hD_sI, hD_sD, if_pos rfl, numW_D _ _ _ _ (by omega), numW_D _ _ _ _ (by omega), numW_D _ _ _ _ (by omega)]
    have ii : hI (sI (sD (numW (numW (numW h (B + t) v o) (B + 137) w u) (B + t) c e) (B + 133 + 1) j c) (B + 133 + 2) j e) (B + 135) = ud (hI h (B + 135)) j e := by
      rw [hI_sI, if_pos rfl, hI_sD, numW_I _ _ _ _ (by omega), numW_I _ _ _ _ (by omega), numW_I _ _ _ _ (by omega)]
    rw [dd, ii, hD_sD, if_pos rfl]
    by_cases ei : i = j
    · rw [ei, ud_s, ud_s, ud_s]; exact N3
    · rw [ud_n ei, ud_n ei, ud_n ei]; exact F i hi
  · rw [hI_sI, if_neg (by omega), hI_sD, numW_I _ _ _ _ (by omega), numW_i]; exact N2.1
end FLD
