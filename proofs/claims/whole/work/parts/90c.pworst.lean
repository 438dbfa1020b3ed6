/-! worst -/
section WOR
variable {B : Nat} {E : EC} {op : Nat → Nat} {g : MT} {hc hr : CT}
theorem wo_loop {w n m b : Nat} (hw : w < 64) (hn : n ≤ 64) (m0 : 1 ≤ m) (m1 : m ≤ 16) (b0 : 1 ≤ b) (b1 : b ≤ 12) : ∀ (d i c f f' : Nat) (s sr : CT), i + d = 17 → 1 ≤ c → c ≤ 16 → 1 ≤ i → d < f → d < f' → Rel B op g (sI s B 19 0) sr → hI s (B + 13) 6 = nI m → hI s (B + 13) 7 = nI b → hI sr (B + 192) 1 = nI m → hI sr (B + 192) 2 = nI b →
    ∃ r s' sr', pX12_worst_l27 g B (nI w) (nI n) f (nI c) (nI (alN m b w c n 0 0 0 fun _ => 0)) (nI i) s = some (r, s') ∧ pX13_worst_l30 g (B + 187) (nI w) (nI n) f' (nI c) (nI i) sr = some (r, sr') ∧ Rel B op g s' sr' := by
  intro d
  induction d with
  | zero =>
    intro i c f f' s sr hi c1 c2 h1 hf hf' H f1 f3 f2 f4
    obtain ⟨f, rfl⟩ : ∃ q, f = q + 1 := ⟨f - 1, by omega⟩
    obtain ⟨f', rfl⟩ : ∃ q, f' = q + 1 := ⟨f' - 1, by omega⟩
    obtain rfl : i = 17 := by omega
    refine ⟨nI c, sI s B 19 0, sr, ?_, ?_, H⟩
    · rw [pX12_worst_l27, pX12_worst_b27, if_pos (by decide), k_answer H.1, w_bd2]
    · rw [pX13_worst_l30, pX13_worst_b30, if_pos (by decide)]
  | succ d ih =>
    intro i c f f' s sr hi c1 c2 h1 hf hf' H f1 f3 f2 f4
    obtain ⟨f, rfl⟩ : ∃ q, f = q + 1 := ⟨f - 1, by omega⟩
    obtain ⟨f', rfl⟩ : ∃ q, f' = q + 1 := ⟨f' - 1, by omega⟩
    have S := H.1
    have p1 : PtC B (hR s) := H.2.1
    have p2 := H.2.2.1
    obtain ⟨h', sr', r1, r2, r3, r4⟩ := alone_both S m0 m1 b0 b1 hw (show i ≤ 64 by omega) hn p1 (sr := sr) p2 f4
    have H' := H.alo r3 r4
    have e192 : hI sr' (B + 192) = hI sr (B + 192) := (r4.2 (B + 192) (by omega)).1
    have p1' : PtC B (hR h') := by rw [r3.1]; exact p1
    have p2' : PtR B (hR sr') := by rw [r4.1]; exact p2
    obtain ⟨h2, sr2, t1, t2, t3, t4⟩ := alone_both S m0 m1 b0 b1 hw (show c ≤ 64 by omega) hn p1' (sr := sr') p2' (by rw [e192]; exact f4)
    -- the class doesn't reckon the best anew
    have H2 : Rel B op g (sI h' B 19 0) sr2 := by
      have := H'.alo (s' := h') ⟨rfl, fun y _ _ => Eqa.rf h' y⟩ t4
      exact this
    have n16 : ¬ (16 : Int32) < nI i := Int32.not_lt.mpr (nI_le (b := 16) (a := i) (by omega) (by decide))
    have le1 := al_le (m := m) (w := w) (st := i) b1 n 0 0 0 (fun _ => 0) (by omega) (by omega) (fun k => by omega) (by omega)
    have le2 := al_le (m := m) (w := w) (st := c) b1 n 0 0 0 (fun _ => 0) (by omega) (by omega) (fun k => by omega) (by omega)
    have e13 : hI h' (B + 13) = hI s (B + 13) := (r3.2 (B + 13) (by omega) (by omega)).1
    have e192' : hI sr2 (B + 192) = hI sr (B + 192) := ((t4.2 (B + 192) (by omega)).1).trans e192
    have cl : pX12_worst_l27 g B (nI w) (nI n) (f + 1) (nI c) (nI (alN m b w c n 0 0 0 fun _ => 0)) (nI i) s = if nI (alN m b w i n 0 0 0 fun _ => 0) ≤ nI (alN m b w c n 0 0 0 fun _ => 0) then pX12_worst_l27 g B (nI w) (nI n) f (nI c) (nI (alN m b w c n 0 0 0 fun _ => 0)) (nI (i + 1)) h' else pX12_worst_l27 g B (nI w) (nI n) f (nI i) (nI (alN m b w i n 0 0 0 fun _ => 0)) (nI (i + 1)) h' := by
      rw [pX12_worst_l27, pX12_worst_b27, if_neg n16, w_lt, pc_0_13 p1, w_lt, pc_0_4 p1, w_nn, w_tg (st_13 S), w_lt, w_nn, w_tg (st_13 S), w_nn, w_tg (st_176 S), f1, f3, r1, w_bd2]
      unfold pX12_worst_b76
      simp only [w_lt, nI_1]
    have rf : pX13_worst_l30 g (B + 187) (nI w) (nI n) (f' + 1) (nI c) (nI i) sr = if nI (alN m b w i n 0 0 0 fun _ => 0) ≤ nI (alN m b w c n 0 0 0 fun _ => 0) then pX13_worst_l30 g (B + 187) (nI w) (nI n) f' (nI c) (nI (i + 1)) sr2 else pX13_worst_l30 g (B + 187) (nI w) (nI n) f' (nI i) (nI (i + 1)) sr2 := by
      have f2' : hI sr' (B + 192) (Int32.toNatClampNeg (nI 1)) = nI m := by rw [nI_clamp (by decide), e192]; exact f2
      have f2s : hI sr (B + 192) (Int32.toNatClampNeg (nI 1)) = nI m := by rw [nI_clamp (by decide)]; exact f2
      have i1 : ∀ k : Option (Int32 × CT), ix 1476 1 k = k := fun k => w_ix (i := 1) (show 1 < 1476 by decide) (by decide) k
      have f2s' : hI sr (B + 192) (Int32.toNatClampNeg 1) = nI m := f2s
      have f2'' : hI sr' (B + 192) (Int32.toNatClampNeg 1) = nI m := f2'
      rw [pX13_worst_l30, pX13_worst_b30, if_neg n16, w_lt, pr_187_19 p2, w_nn, w_tg (st_192 S), sl_192 S, i1, f2s', r2, w_bd2, w_lt, pr_187_19 p2', w_nn, w_tg (st_192 S), sl_192 S, i1, f2'', t2, w_bd2]
      unfold pX13_worst_b70
      simp only [w_lt, nI_1]
    rw [cl, rf]
    by_cases k : nI (alN m b w i n 0 0 0 fun _ => 0) ≤ nI (alN m b w c n 0 0 0 fun _ => 0)
    · rw [if_pos k, if_pos k]
      exact ih (i + 1) c f f' h' sr2 (by omega) c1 c2 (by omega) (by omega) (by omega) H2 (by rw [e13]; exact f1) (by rw [e13]; exact f3) (by rw [e192']; exact f2) (by rw [e192']; exact f4)
    · rw [if_neg k, if_neg k]
      exact ih (i + 1) i f f' h' sr2 (by omega) h1 (by omega) (by omega) (by omega) (by omega) H2 (by rw [e13]; exact f1) (by rw [e13]; exact f3) (by rw [e192']; exact f2) (by rw [e192']; exact f4)
theorem C_worst : K_worst B E op := by
  intro a c g hc hr H
  have S := H.1
  have p1 := H.2.1
  have p2 := H.2.2.1
  obtain ⟨e, k⟩ := alone_why B (B + 187) a 1 c
  have e01 : pX13_whyNotAlone (B + 187) a 0 c = pX13_whyNotAlone (B + 187) a 1 c := by
    unfold pX13_whyNotAlone
    rw [show pX13_isIn (Int32.toInt64 0) 0 64 = 1 from by decide, show pX13_isIn (Int32.toInt64 1) 0 64 = 1 from by decide]
  rcases k with k | k | ⟨k, w, st, n, hw, hs, hn, rfl, hst, rfl⟩
  · exact ⟨-1, _, _, by simp only [pX12_worst, w_tg (st_0 S), w_lt, e, k, if_neg (show ¬ (2 : Int32) = 0 by decide), k_refuse S, w_bd2], by simp only [pX13_worst, w_tg (st_187 S), w_lt, e01, k, hI_s, if_neg (show ¬ (2 : Int32) ≤ 0 by decide)], H.stat 2 0⟩
  · exact ⟨-1, _, _, by simp only [pX12_worst, w_tg (st_0 S), w_lt, e, k, if_neg (show ¬ (5 : Int32) = 0 by decide), k_refuse S, w_bd2], by simp only [pX13_worst, w_tg (st_187 S), w_lt, e01, k, hI_s, if_neg (show ¬ (5 : Int32) ≤ 0 by decide)], H.stat 5 0⟩
  · have H0 := H.stat 0 0
    obtain ⟨m, b, m0, m1, b0, b1, f1, f2, f3, f4⟩ := mac_67 H0
    obtain ⟨h', sr', r1, r2, r3, r4⟩ := alone_both S m0 m1 b0 b1 hw (show 1 ≤ 64 by decide) hn p1 (sr := sI (sI hr (B + 187) 1 0) (B + 187) 0 0) p2 f4
    have H1 : Rel B op g (sI h' B 19 0) (sI (sI hr (B + 187) 1 0) (B + 187) 0 0) := H0.alo r3 (But1.rf _ _)
    have e13 : hI h' (B + 13) = hI hc (B + 13) := (r3.2 (B + 13) (by omega) (by omega)).1
    have le1 := al_le (m := m) (w := w) (st := 1) b1 n 0 0 0 (fun _ => 0) (by omega) (by omega) (fun k => by omega) (by omega)
    obtain ⟨r, s', sr2, q1, q2, q3⟩ := wo_loop hw hn m0 m1 b0 b1 15 2 1 4999 FUEL h' _ (by omega) (by omega) (by omega) (by omega) (by decide) (by decide) H1 (by rw [e13]; exact f1) (by rw [e13]; exact f3) f2 f4
    refine ⟨r, s', sr2, ?_, ?_, q3⟩
    · show pX12_worst g hc B (nI w) (nI n) = _
      simp only [pX12_worst, w_tg (st_0 S), w_lt, e, k, if_true]
      have neg : ¬ nI (alN m b w 1 n 0 0 0 fun _ => 0) ≤ -1 := by
        rw [Int32.le_iff_toInt_le, nI_toInt (by omega), show (-1 : Int32).toInt = -1 from rfl]; omega
      have r1' : pX10_stallsAlone g hc (B + 176) (nI w) 1 (nI n) (nI m) (nI b) = some (nI (alN m b w 1 n 0 0 0 fun _ => 0), h') := r1
      rw [show FUEL = 4999 + 1 from rfl, pX12_worst_l27, pX12_worst_b27, if_neg (by decide), w_lt, pc_0_13 p1, w_lt, pc_0_4 p1, w_nn, w_tg (st_13 S), w_lt, w_nn, w_tg (st_13 S), w_nn, w_tg (st_176 S), f1, f3, r1', w_bd2, if_neg neg]
      unfold pX12_worst_b76
      rw [w_lt]
      exact q1
    · show pX13_worst g hr (B + 187) (nI w) (nI n) = _
      simp only [pX13_worst, w_tg (st_187 S), w_lt, e01, k, hI_s]
      rw [if_pos (by decide)]
      exact q2
end WOR
