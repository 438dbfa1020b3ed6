/-! sum, sums -/
section SUM
variable {B : Nat} {E : EC} {op : Nat → Nat} {g : MT} {hc hr : CT}
theorem FrF.stat {t : Nat} {h h' : CT} (x : FrF B t h h') (ht : 130 < t) : FrF B t (sI h B 19 0) (sI h' B 19 0) := ⟨x.1, fun y a b c d => by
  have e := x.2 y a b c d
  refine ⟨?_, e.2.1, e.2.2.1, e.2.2.2⟩
  rw [hI_sI, hI_sI]
  by_cases z : y = B
  · subst z; rw [if_pos rfl, if_pos rfl, e.1]
  · rw [if_neg z, if_neg z, e.1]⟩
theorem Rel.fold (H : Rel B op g hc hr) {t : Nat} (ht : t = 136 ∨ t = 183 ∨ t = 184 ∨ t = 185 ∨ t = 186) {h' sr' : CT} (f1 : FrF B t hc h') (f2 : FrG B hr sr') (i1 : is01 (hI h' (B + 137) 1)) (i2 : is01 (hI h' (B + t) 1)) : Rel B op g h' sr' := by
  have eB := (f1.2 B (by omega) (by omega) (by omega) (by omega)).1
  refine H.obj (W := [134, 135, 137, t]) (W' := [187, 200]) (fun y z1 z2 => f1.2 y (z2 134 (by simp)) (z2 135 (by simp)) (z2 137 (by simp)) (z2 t (by simp))) (fun y z1 z2 => f2.2.1 y (z2 187 (by simp)) (z2 200 (by simp))) ?_ ?_ rfl (by rw [f1.1]; exact H.2.1) (by rw [f2.1]; exact H.2.2.1) (by rw [eB]) (by rw [eB]) (by rw [eB]) (by rw [eB]) ?_ ?_
  · rcases ht with rfl | rfl | rfl | rfl | rfl <;> rfl
  · rcases ht with rfl | rfl | rfl | rfl | rfl <;> rfl
  · obtain ⟨q1, q2, q3, q4, q5, q6, q7, q8, q9⟩ := H.2.2.2.1
    have e130 := f1.2 (B + 130) (by omega) (by omega) (by omega) (by omega)
    have e11 := f1.2 (B + 11) (by omega) (by omega) (by omega) (by omega)
    unfold ObjR
    rw [eB, e130.1, e130.2.1, e11.1, f2.2.2.2]
    have q := f2.2.2.1
    rw [q 0 (by decide), q 8 (by decide), q 21 (by decide), q 41 (by decide), q 22 (by decide), q 3 (by decide), q 10 (by decide), q 11 (by decide)]
    exact ⟨q1, q2, q3, q4, q5, q6, q7, q8, q9⟩
  · obtain ⟨s1, s2, s3, s4, s5, s6⟩ := H.2.2.2.2.2.2.2.2.2.2
    have all : ∀ m, 135 < m → is01 (hI hc (B + m) 1) → is01 (hI h' (B + m) 1) := fun m hm hh => by
      by_cases e : m = t
      · rw [e]; exact i2
      · by_cases e2 : m = 137
        · rw [e2]; exact i1
        · rw [(f1.2 (B + m) (by omega) (by omega) (by omega) (by omega)).1]; exact hh
    exact ⟨all _ (by omega) s1, all _ (by omega) s2, all _ (by omega) s3, all _ (by omega) s4, all _ (by omega) s5, all _ (by omega) s6⟩
/-- what summing needs -/
def SumP (B : Nat) (g : MT) (r n : Nat) (h sr : CT) : Prop := Sh B g ∧ PtC B (hR h) ∧ PtR B (hR sr) ∧ is01 (hI h (B + 137) 1) ∧ hI h (B + 13) 5 = nI n ∧ hI sr (B + 192) 0 = nI n ∧ n ≤ 16 ∧ r < 6 ∧ RowR 16 (hD h (B + 13 + 3 + 3 * r)) (hI h (B + 13 + 4 + 3 * r)) (hD sr (B + 193)) (16 * r)
theorem SumP.keep {r n t : Nat} {h sr h' sr' : CT} (H : SumP B g r n h sr) (ht : t = 136 ∨ t = 183 ∨ t = 184 ∨ t = 185 ∨ t = 186) (f1 : FrF B t h h') (f2 : FrG B sr sr') (i1 : is01 (hI h' (B + 137) 1)) : SumP B g r n h' sr' := by
  obtain ⟨a1, a2, a3, a4, a5, a6, a7, a8, a9⟩ := H
  refine ⟨a1, by rw [f1.1]; exact a2, by rw [f2.1]; exact a3, i1, by rw [(f1.2 (B + 13) (by omega) (by omega) (by omega) (by omega)).1]; exact a5, by rw [(f2.2.1 (B + 192) (by omega) (by omega)).1]; exact a6, a7, a8, ?_⟩
  rw [(f1.2 (B + 13 + 3 + 3 * r) (by omega) (by omega) (by omega) (by omega)).2.2.1, (f1.2 (B + 13 + 4 + 3 * r) (by omega) (by omega) (by omega) (by omega)).1, (f2.2.1 (B + 193) (by omega) (by omega)).2.2.1]
  exact a9
theorem SumP_of (H : Rel B op g hc hr) {r : Nat} (hr6 : r < 6) : ∃ n, SumP B g r n hc hr := by
  obtain ⟨S, p1, p2, r1, r2, r3, r4, r5, r6, r7, r8⟩ := H
  obtain ⟨n, n1, n2, n3⟩ := r5.1.1
  refine ⟨n, S, p1, p2, r8.2.1, n2, n3, n1, hr6, ?_⟩
  have := r5.1.2.2.2.2.2.2.1 r hr6
  rw [show 164 * 0 + 16 * r = 16 * r by omega] at this
  exact this
theorem t_tag (S : Sh B g) {t : Nat} (ht : t = 136 ∨ t = 183 ∨ t = 184 ∨ t = 185 ∨ t = 186) : gT g (B + t) = 4 := by
  rcases ht with rfl | rfl | rfl | rfl | rfl
  · exact st_136 S
  · exact st_183 S
  · exact st_184 S
  · exact st_185 S
  · exact st_186 S
/-- one after the other -/
theorem add_loop {r n t : Nat} (ht : t = 136 ∨ t = 183 ∨ t = 184 ∨ t = 185 ∨ t = 186) {k : Int32} : ∀ (d j f f' : Nat) (h sr : CT) (x : UInt64), j + d = n → d < f → d < f' → SumP B g r n h sr → NumR (hD h (B + t) 0) (hI h (B + t) 1) x →
    ∃ h' y, pX9_addUp_l30 g (B + 132) (B + 13 + 2 + 3 * r) (nI n) k (B + t) f (nI j) h = some h' ∧ pX13_summed_l52 g (B + 187) (nI r) k f' (nI n) x (nI j) sr = some (y, sr) ∧ NumR (hD h' (B + t) 0) (hI h' (B + t) 1) y ∧ FrF B t h h' ∧ is01 (hI h' (B + 137) 1) := by
  intro d
  induction d with
  | zero =>
    intro j f f' h sr x hj hf hf' P N
    obtain ⟨f, rfl⟩ : ∃ q, f = q + 1 := ⟨f - 1, by omega⟩
    obtain ⟨f', rfl⟩ : ∃ q, f' = q + 1 := ⟨f' - 1, by omega⟩
    obtain rfl : j = n := by omega
    have hn := P.2.2.2.2.2.2.1
    refine ⟨h, x, ?_, ?_, N, FrF.rf B t h, P.2.2.2.1⟩
    · rw [pX9_addUp_l30, pX9_addUp_b30, if_pos (nI_le (Nat.le_refl _) (by omega))]
    · rw [pX13_summed_l52, pX13_summed_b52, if_pos (nI_le (Nat.le_refl _) (by omega))]
  | succ d ih =>
    intro j f f' h sr x hj hf hf' P N
    obtain ⟨f, rfl⟩ : ∃ q, f = q + 1 := ⟨f - 1, by omega⟩
    obtain ⟨f', rfl⟩ : ∃ q, f' = q + 1 := ⟨f' - 1, by omega⟩
    have P' := P
    obtain ⟨S, p, p2, i1, n1, n2, hn, hr6, R⟩ := P
    have Tt := t_tag S ht
    have hx : pix k n j < n := by unfold pix; split <;> omega
    obtain ⟨M1, M2, M3, M4, M5, -⟩ := machA_13 S p
    obtain ⟨R1, R2⟩ := M5 r hr6
    have e3 : B + 13 + 2 + 3 * r + 1 = B + 13 + 3 + 3 * r := by omega
    have e4 : B + 13 + 2 + 3 * r + 2 = B + 13 + 4 + 3 * r := by omega
    have N2 := R (pix k n j) (by omega)
    have f1 := row_fetch (h := h) (p := B + 137) R2 (st_137 S) (show pix k n j < 16 by omega) (by decide) (by rw [e4]; exact N2.1)
    rw [e3, e4] at f1
    generalize hw : hD h (B + 13 + 3 + 3 * r) (pix k n j) = w at *
    generalize hu : hI h (B + 13 + 4 + 3 * r) (pix k n j) = u at *
    have a1 : hD (numW h (B + 137) w u) (B + t) = hD h (B + t) := numW_D _ _ _ _ (by omega)
    have a2 : hI (numW h (B + 137) w u) (B + t) = hI h (B + t) := numW_I _ _ _ _ (by omega)
    have pl := n_plus (h := numW h (B + 137) w u) (a := B + t) (b := B + 137) Tt (st_137 S) (by rw [a1]; exact N.2.1) (by rw [numW_d]; exact N2.2.1)
    rw [a1, a2, numW_d, numW_i] at pl
    have N3 := R_plus N N2
    generalize hc2 : (nPlus (hD h (B + t) 0) (hI h (B + t) 1) w u).1 = c at *
    generalize he2 : (nPlus (hD h (B + t) 0) (hI h (B + t) 1) w u).2 = e at *
    have F1 : FrF B t h (numW (numW h (B + 137) w u) (B + t) c e) := ⟨rfl, fun y _ _ y3 y4 => ((Eqa.rf h y).num y3).num y4⟩
    have i1' : is01 (hI (numW (numW h (B + 137) w u) (B + t) c e) (B + 137) 1) := by rw [numW_I _ _ _ _ (by omega), numW_i]; exact N2.1
    obtain ⟨h', y, b1, b2, b3, b4, b5⟩ := ih (j + 1) f f' (numW (numW h (B + 137) w u) (B + t) c e) sr (fadd x (hD sr (B + 193) (16 * r + pix k n j))) (by omega) (by omega) (by omega) (P'.keep ht F1 (FrG.rf B sr) i1') (by rw [numW_d, numW_i]; exact N3)
    refine ⟨h', y, ?_, ?_, b3, F1.tr b4, b5⟩
    · have go : pX9_addUp_b52 g (B + 132) (B + 13 + 2 + 3 * r) (nI n) k (B + t) (pX9_addUp_l30 g (B + 132) (B + 13 + 2 + 3 * r) (nI n) k (B + t) f) (nI j) (B + 13 + 2 + 3 * r) (nI (pix k n j)) h = some h' := by
        unfold pX9_addUp_b52
        rw [w_lt, pc_132_3 p, w_tg R2.1, w_nn, f1, w_bd, w_lt, show hR (numW h (B + 137) w u) (B + 132) 3 = some (B + 137) from pc_132_3 p, w_tg Tt, w_nn, pl, w_bd, w_lt, nI_1]
        exact b1
      rw [pX9_addUp_l30, pX9_addUp_b30, if_neg (nI_ge (show j < n by omega) (by omega)), ← go]
      by_cases c0 : k = 0
      · rw [if_pos c0]; unfold pix; rw [if_pos c0]
      · rw [if_neg c0]; unfold pix; rw [if_neg c0, show (nI n - 1 : Int32) = nI (n - 1) from pk_sub (a := n) (b := 1) (by omega), pk_sub (by omega)]
    · have go : pX13_summed_b83 g (B + 187) (nI r) k (pX13_summed_l52 g (B + 187) (nI r) k f') (nI n) (nI j) x (some (B + 193)) (16 * nI r) (nI (pix k n j)) sr = some (y, sr) := by
        unfold pX13_summed_b83
        have ei : (16 * nI r + nI (pix k n j) : Int32) = nI (16 * r + pix k n j) := by rw [show (16 : Int32) = nI 16 from rfl, pk_mul, nI_add]
        rw [w_nn, w_tg (st_193 S), sl_193 S, ei, w_ix (show 16 * r + pix k n j < 984 by omega) (by decide), w_lt, nI_clamp (by omega), w_lt, nI_1]
        exact b2
      rw [pX13_summed_l52, pX13_summed_b52, if_neg (nI_ge (show j < n by omega) (by omega)), w_lt, pr_187_20 p2, ← go]
      by_cases c0 : k = 0
      · rw [if_pos c0]; unfold pix; rw [if_pos c0]
      · rw [if_neg c0]; unfold pix; rw [if_neg c0, show (nI n - 1 : Int32) = nI (n - 1) from pk_sub (a := n) (b := 1) (by omega), pk_sub (by omega)]
end SUM
