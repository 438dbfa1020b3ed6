/-! run -/
section CRUN
variable {B b L : Nat} {E : EC} {xs : Nat → Int32} {op st bt : Nat → Nat} {aL aS aO : Nat} {g : MT} {h h' h1 h2 hc hr hr' hr1 : CT} {q z p pp : Nat} {π : Pg} {k n nb y t T : Nat}
/-- the reference keeps what it ran -/
theorem r_keepRun (S : Sh B g) {x : CT} (p2 : PtR B (hR x)) (v4 v5 : Int32) : ∃ y, pX13_run_l114 g (B + 187) FUEL 0 (sI (sI (sI (sI (sI (sI x (B + 201) 0 (hI x (B + 187) 34)) (B + 201) 1 (hI x (B + 187) 35)) (B + 201) 2 (hI x (B + 187) 36)) (B + 201) 3 (hI x (B + 187) 37)) (B + 201) 4 v4) (B + 201) 5 v5) = (if hI x (B + 187) 37 ≤ 0 then some (hI x (B + 187) 36, y) else some (-1, sI y (B + 187) 0 12))
    ∧ hR y = hR x ∧ (∀ w, w ≠ B + 187 → (w < B + 201 ∨ B + 203 < w) → Eqa x y w) ∧ (∀ k, k ≠ 41 → k ≠ 22 → hI y (B + 187) k = hI x (B + 187) k) ∧ hL y (B + 187) = hL x (B + 187) ∧ hI y (B + 187) 41 = 1 ∧ hI y (B + 187) 22 = 1
    ∧ (hI y (B + 201) 0 = hI x (B + 187) 34 ∧ hI y (B + 201) 1 = hI x (B + 187) 35 ∧ hI y (B + 201) 2 = hI x (B + 187) 36 ∧ hI y (B + 201) 3 = hI x (B + 187) 37 ∧ hI y (B + 201) 4 = v4 ∧ hI y (B + 201) 5 = v5) ∧ ∀ k, k < 30 → hI y (B + 202) k = hI x (B + 198) k ∧ hI y (B + 203) k = hI x (B + 199) k := by
  generalize hs : sI (sI (sI (sI (sI (sI x (B + 201) 0 (hI x (B + 187) 34)) (B + 201) 1 (hI x (B + 187) 35)) (B + 201) 2 (hI x (B + 187) 36)) (B + 201) 3 (hI x (B + 187) 37)) (B + 201) 4 v4) (B + 201) 5 v5 = s
  have sR' : hR s = hR x := by rw [← hs]; rfl
  have s201 : hI s (B + 201) 0 = hI x (B + 187) 34 ∧ hI s (B + 201) 1 = hI x (B + 187) 35 ∧ hI s (B + 201) 2 = hI x (B + 187) 36 ∧ hI s (B + 201) 3 = hI x (B + 187) 37 ∧ hI s (B + 201) 4 = v4 ∧ hI s (B + 201) 5 = v5 := by
    rw [← hs]
    simp [hI_sI, ud]
  have so : ∀ w, w ≠ B + 201 → Eqa x s w := fun w c => by
    rw [← hs]
    exact ((((((Eqa.rf x w).sI c).sI c).sI c).sI c).sI c).sI c
  obtain ⟨y, q1, i1, i2, i3, i4⟩ := loopE (L := fun f j u => pX13_run_l114 g (B + 187) f (nI j) u) (N := 30) (Inv := fun j u => hR u = hR x ∧ (∀ w, w ≠ B + 202 → w ≠ B + 203 → Eqa s u w) ∧ (∀ i, i < j → hI u (B + 202) i = hI x (B + 198) i) ∧ ∀ i, i < j → hI u (B + 203) i = hI x (B + 199) i) (K := fun u => if hI u (B + 187) 37 ≤ 0 then some (hI u (B + 187) 36, sI (sI u (B + 187) 41 1) (B + 187) 22 1) else some (-1, sI (sI (sI u (B + 187) 41 1) (B + 187) 22 1) (B + 187) 0 12)) (fun f j u hj H => by
    obtain ⟨H1, H2, H3, H4⟩ := H
    have ps : PtR B (hR u) := by rw [H1]; exact p2
    have e1 : hI u (B + 198) j = hI x (B + 198) j := by rw [(H2 (B + 198) (by omega) (by omega)).1, (so (B + 198) (by omega)).1]
    have e2 : hI u (B + 199) j = hI x (B + 199) j := by rw [(H2 (B + 199) (by omega) (by omega)).1, (so (B + 199) (by omega)).1]
    refine ⟨sI (sI u (B + 202) j (hI x (B + 198) j)) (B + 203) j (hI x (B + 199) j), ?_, H1, fun w w1 w2 => ((H2 w w1 w2).sI w1).sI w2, fun i hi => ?_, fun i hi => ?_⟩
    · show pX13_run_l114 g (B + 187) (f + 1) (nI j) u = _
      rw [pX13_run_l114, pX13_run_b114, if_neg (show ¬ (30 : Int32) ≤ nI j from nI_ge (b := 30) hj (by decide)), w_lt, pr_187_46 ps, w_lt, pr_187_27 ps, w_nn, w_tg (st_198 S), sl_198 S, w_ix hj (by decide), w_nn, w_tg (st_202 S), sl_202 S, w_ix hj (by decide), nI_clamp (by omega), e1, w_lt, w_lt, hR_sI, pr_187_47 ps, w_lt, pr_187_28 ps, w_nn, w_tg (st_199 S), sl_199 S, w_ix hj (by decide), w_nn, w_tg (st_203 S), sl_203 S, w_ix hj (by decide), hI_sI, if_neg (by omega), e2, w_lt, w_lt, nI_1]
    · rw [hI_sI, if_neg (by omega), hI_sI, if_pos rfl]
      by_cases e : i = j
      · rw [e, ud_s]
      · rw [ud_n e]; exact H3 i (by omega)
    · rw [hI_sI, if_pos rfl, hI_sI, if_neg (by omega)]
      by_cases e : i = j
      · rw [e, ud_s]
      · rw [ud_n e]; exact H4 i (by omega)) (fun f u H => by
    show pX13_run_l114 g (B + 187) (f + 1) (nI 30) u = _
    rw [pX13_run_l114, pX13_run_b114, if_pos (by decide), w_lt, w_lt]
    have e37 : hI (sI (sI u (B + 187) 41 1) (B + 187) 22 1) (B + 187) 37 = hI u (B + 187) 37 := by rw [hI_sI, if_pos rfl, ud_n (by decide), hI_sI, if_pos rfl, ud_n (by decide)]
    have e36 : hI (sI (sI u (B + 187) 41 1) (B + 187) 22 1) (B + 187) 36 = hI u (B + 187) 36 := by rw [hI_sI, if_pos rfl, ud_n (by decide), hI_sI, if_pos rfl, ud_n (by decide)]
    rw [e37, e36, m_refuse S, w_bd2]) 30 0 FUEL s (by omega) (by decide) ⟨sR', fun w _ _ => Eqa.rf s w, fun i hi => by omega, fun i hi => by omega⟩
  have y187 : hI y (B + 187) = hI x (B + 187) := by rw [(i2 (B + 187) (by omega) (by omega)).1, (so (B + 187) (by omega)).1]
  have n1 : ∀ w, w ≠ B + 187 → hI (sI (sI y (B + 187) 41 1) (B + 187) 22 1) w = hI y w := fun w c => by rw [hI_sI, if_neg c, hI_sI, if_neg c]
  have f1 : ∀ k, hI (sI (sI y (B + 187) 41 1) (B + 187) 22 1) (B + 187) k = ud (ud (hI x (B + 187)) 41 1) 22 1 k := fun k => by rw [hI_sI, if_pos rfl, hI_sI, if_pos rfl, y187]
  refine ⟨sI (sI y (B + 187) 41 1) (B + 187) 22 1, ?_, i1, fun w w1 w2 => ?_, fun k k1 k2 => by rw [f1, ud_n k2, ud_n k1], by show hL y (B + 187) = _; rw [(i2 (B + 187) (by omega) (by omega)).2.1, (so (B + 187) (by omega)).2.1], by rw [f1]; rfl, by rw [f1]; rfl, ?_, fun k hk => ⟨by rw [n1 _ (by omega)]; exact i3 k hk, by rw [n1 _ (by omega)]; exact i4 k hk⟩⟩
  · refine q1.trans ?_
    show (if hI y (B + 187) 37 ≤ 0 then _ else _) = _
    rw [y187]
  · exact ((so w (by omega)).tr (i2 w (by omega) (by omega))).sI w1 |>.sI w1
  · rw [n1 _ (by omega), (i2 (B + 201) (by omega) (by omega)).1]; exact s201
end CRUN
