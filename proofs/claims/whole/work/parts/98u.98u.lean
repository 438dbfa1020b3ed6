/-! the reference reads all of a form: the kinds -/
section FRK
variable {B b L : Nat} {g : MT} {h h' h0 h1 h2 : CT} {tp : Nat → Int32} {n p w k : Nat} {q : RQ} {z : Int32}
theorem SR.pr (X : SR B g h0 h tp n w k q) : hR h (B + 187) 19 = some (B + 192) := pr_187_19 X.1.qt.2.1
theorem SR.tg (X : SR B g h0 h tp n w k q) : gT g (B + 187) = 12 := st_187 X.1.qt.1
theorem SR.txt (X : SR B g h0 h tp n w k q) {c : Int32} (c9 : c ≠ 109) (ct : c = 42 ∨ c = 59 ∨ c = 64 ∨ c = 102) (R : RS B g h' tp n (stp tp n q c)) (V : VFr B h h') : SR B g h0 h' tp n w k (stp tp n q c) := by
  refine ⟨R, X.2.1.v V, fun f0 y y1 y6 => ?_⟩
  have q0 : q.1 = 0 := Classical.byContradiction fun e => by rw [stp_f e] at f0; exact e f0
  rw [(V.2.1 (B + 192) (by omega)).1, X.2.2 q0 y y1 y6]
  rw [stp_0 q0 c9] at f0 ⊢
  by_cases f : fF tp n q.2.1 c = 0
  · rw [if_pos f, if_pos ct]
  · rw [if_neg f] at f0
    exact absurd f0 f
theorem s_msk (X : SR B g h0 h tp n w k q) (hw : w + 7 < 1230) : ∃ h', pX13_readReckoned_b42 g (B + 187) (nI w) z h = some h' ∧ SR B g h0 h' tp n w k (stp tp n q 109) := by
  obtain ⟨R, G, L0⟩ := id X
  have S := R.qt.1
  unfold pX13_readReckoned_b42
  rcases R with ⟨r, l⟩ | ⟨r, d⟩
  · rw [l.2, if_neg (by decide), m_isMasked l.1, w_bd, stp_m r]
    by_cases t : isT tp n q.2.1 (stB 1)
    · obtain ⟨h', q1, q2, q3⟩ := m_adv (l.c (x := 1) (j := w + 6))
      rw [if_pos t, if_neg (by decide), if_pos t, w_lt, X.pr, w_nn, w_tg (st_192 S), sl_192 S, show (nI w + 6 : Int32) = nI (w + 6) from nI_add w 6, w_ix (by omega) (by decide), w_lt, nI_clamp (by omega), q1, w_bd]
      refine ⟨h', rfl, Or.inl ⟨rfl, q2⟩, (G.c (o := 6) (by omega)).v q3, fun _ y y1 y6 => ?_⟩
      rw [(q3.2.1 (B + 192) (by omega)).1, hI_sI, if_pos rfl]
      show ud (hI h (B + 192)) (w + 6) 1 (w + y) = layv k (ud q.2.2 8 1) y
      rw [lay_ud (o := 6) (by simp [okp]) _ _ y1 y6]
      by_cases e : y = 6
      · rw [e, ud_s, if_pos rfl]
      · rw [if_neg e, ud_n (by omega)]
        exact L0 r y y1 y6
    · rw [if_neg t, if_pos rfl, if_neg t]
      exact ⟨h, rfl, X⟩
  · rw [stp_f r, if_pos (by rw [d.2.1]; exact d.2.2.1)]
    exact ⟨h, rfl, X⟩
theorem s_rat (X : SR B g h0 h tp n w k q) : ∃ h1 h', pX13_readAt g h (B + 187) = some (if (stp tp n (stp tp n q 64) 112).1 = 0 then (stp tp n (stp tp n q 64) 112).2.2 (itK 112) else 0, h') ∧ SR B g h0 h1 tp n w k (stp tp n q 64) ∧ RS B g h' tp n (stp tp n (stp tp n q 64) 112) ∧ VFr B h1 h' := by
  obtain ⟨x, h1, e1, e2, R1, V1⟩ := s_at X.1
  have X1 := X.txt (by decide) (by decide) R1 V1
  obtain ⟨h', e3, R2, V2⟩ := s_cnt X1.1 (c := 112) (m := 63) (by decide) rfl
  refine ⟨h1, h', ?_, X1, R2, V2⟩
  unfold pX13_readAt
  rw [w_tg X.tg, e1, w_bd, e2, w_bd, e3, w_bd2]
theorem t_b33 (X : SR B g h0 h tp n w k q) (hw : w + 7 < 1230) : ∃ h', pX13_readRest_b33 g (B + 187) (nI w) z h = some h' ∧ SR B g h0 h' tp n w k (rdl tp n q [100]) := by
  obtain ⟨h1, e1, R1, V1⟩ := s_row X.1 (c := 100) (by decide)
  obtain ⟨z1, z2⟩ := s_put X (c := 100) (o := 1) (oo := 1) (by decide) (by decide) rfl (by simp [okp, itK]) hw ⟨h1, rfl, R1, V1⟩ some
  unfold pX13_readRest_b33
  rw [w_lt, X.pr, e1, w_bd2, z1]
  exact ⟨_, rfl, z2⟩
theorem t_b139 (X : SR B g h0 h tp n w k q) (hw : w + 7 < 1230) : ∃ h', pX13_readRest_b139 g (B + 187) (nI w) z h = some h' ∧ SR B g h0 h' tp n w k (rdl tp n q [100, 97]) := by
  obtain ⟨h1, e1, R1, V1⟩ := s_row X.1 (c := 100) (by decide)
  have z1 := fun K => (s_put (α := CT) X (c := 100) (o := 1) (oo := 1) (by decide) (by decide) rfl (by simp [okp, itK]) hw ⟨h1, rfl, R1, V1⟩ K).1
  have X1 := (s_put X (c := 100) (o := 1) (oo := 1) (by decide) (by decide) rfl (by simp [okp, itK]) hw ⟨h1, rfl, R1, V1⟩ some).2
  obtain ⟨h2, e2, R2, V2⟩ := s_row X1.1 (c := 97) (by decide)
  obtain ⟨z2, X2⟩ := s_put X1 (c := 97) (o := 2) (oo := 2) (by decide) (by decide) rfl (by simp [okp, itK]) hw ⟨h2, rfl, R2, V2⟩ some
  unfold pX13_readRest_b139
  rw [w_lt, X.pr, e1, w_bd2, z1, w_lt, X1.pr, e2, w_bd2, z2]
  exact ⟨_, rfl, X2⟩
theorem t_b199 (X : SR B g h0 h tp n w k q) (hw : w + 7 < 1230) (hk : k ≠ 3 ∧ k ≠ 4) : ∃ h', pX13_readRest_b199 g (B + 187) (nI w) z h = some h' ∧ SR B g h0 h' tp n w k (rdl tp n q [115, 100]) := by
  obtain ⟨h1, e1, R1, V1⟩ := s_sca X.1
  have z1 := fun K => (s_put (α := CT) X (c := 115) (o := 5) (oo := 5) (by decide) (by decide) rfl (by simp [okp, itK, hk]) hw ⟨h1, rfl, R1, V1⟩ K).1
  have X1 := (s_put X (c := 115) (o := 5) (oo := 5) (by decide) (by decide) rfl (by simp [okp, itK, hk]) hw ⟨h1, rfl, R1, V1⟩ some).2
  obtain ⟨h2, e2, R2, V2⟩ := s_row X1.1 (c := 100) (by decide)
  obtain ⟨z2, X2⟩ := s_put X1 (c := 100) (o := 1) (oo := 1) (by decide) (by decide) rfl (by simp [okp, itK]) hw ⟨h2, rfl, R2, V2⟩ some
  unfold pX13_readRest_b199
  rw [w_lt, X.pr, e1, w_bd2, z1, w_lt, X1.pr, e2, w_bd2, z2]
  exact ⟨_, rfl, X2⟩
theorem t_mem1 (X : SR B g h0 h tp n w k q) (hw : w + 7 < 1230) (hk : k = 3 ∨ k = 4) : ∃ h', pX13_readMemory g h (B + 187) (nI w) (nI k) = some h' ∧ SR B g h0 h' tp n w k (rdl tp n q [100, 64, 112, 42, 121]) := by
  obtain ⟨h1, e1, R1, V1⟩ := s_row X.1 (c := 100) (by decide)
  have z1 := fun K => (s_put (α := CT) X (c := 100) (o := 1) (oo := 1) (by decide) (by decide) rfl (by simp [okp, itK]) hw ⟨h1, rfl, R1, V1⟩ K).1
  have X1 := (s_put X (c := 100) (o := 1) (oo := 1) (by decide) (by decide) rfl (by simp [okp, itK]) hw ⟨h1, rfl, R1, V1⟩ some).2
  generalize hq1 : stp tp n q 100 = q1 at *
  obtain ⟨h2, h3, e2, X2, R3, V3⟩ := s_rat X1
  generalize hq2 : stp tp n q1 64 = q2 at *
  have k0 : k ≠ 0 ∧ k ≠ 25 := by omega
  have z2 := fun K => (s_put (α := CT) X2 (c := 112) (o := 4) (oo := 4) (by decide) (by decide) rfl (by simp [okp, itK, k0]) hw ⟨h3, rfl, R3, V3⟩ K).1
  have X3 := (s_put X2 (c := 112) (o := 4) (oo := 4) (by decide) (by decide) rfl (by simp [okp, itK, k0]) hw ⟨h3, rfl, R3, V3⟩ some).2
  generalize hq3 : stp tp n q2 112 = q3 at *
  obtain ⟨x, h4, e4, e5, R4, V4⟩ := s_by X3.1
  have X4 := X3.txt (by decide) (by decide) R4 V4
  generalize hq4 : stp tp n q3 42 = q4 at *
  obtain ⟨h5, e6, R5, V5⟩ := s_cnt X4.1 (c := 121) (m := 16) (by decide) rfl
  obtain ⟨z3, X5⟩ := s_put X4 (c := 121) (o := 5) (oo := 5) (by decide) (by decide) rfl (by simp [okp, itK, hk]) hw ⟨h5, rfl, R5, V5⟩ some
  generalize hq5 : stp tp n q4 121 = q5 at *
  have er : rdl tp n q [100, 64, 112, 42, 121] = q5 := by rw [← hq5, ← hq4, ← hq3, ← hq2, ← hq1]; rfl
  rw [er]
  have n5 : ¬ nI k = 5 := by rcases hk with rfl | rfl <;> decide
  have n6 : ¬ nI k = 6 := by rcases hk with rfl | rfl <;> decide
  unfold pX13_readMemory
  rw [w_tg X.tg, w_lt, X.pr, e1, w_bd2, z1, w_lt, X1.pr, e2, w_bd2, z2, if_neg n5, if_neg n6, e4, w_bd, e5, w_bd, w_lt, X4.pr, e6, w_bd2, z3]
  exact ⟨_, rfl, X5⟩
theorem t_mem2 (X : SR B g h0 h tp n w k q) (hw : w + 7 < 1230) (hk : k = 5 ∨ k = 6) : ∃ h', pX13_readMemory g h (B + 187) (nI w) (nI k) = some h' ∧ SR B g h0 h' tp n w k (rdl tp n q [100, 64, 112, 102, 98]) := by
  obtain ⟨h1, e1, R1, V1⟩ := s_row X.1 (c := 100) (by decide)
  have z1 := fun K => (s_put (α := CT) X (c := 100) (o := 1) (oo := 1) (by decide) (by decide) rfl (by simp [okp, itK]) hw ⟨h1, rfl, R1, V1⟩ K).1
  have X1 := (s_put X (c := 100) (o := 1) (oo := 1) (by decide) (by decide) rfl (by simp [okp, itK]) hw ⟨h1, rfl, R1, V1⟩ some).2
  generalize hq1 : stp tp n q 100 = q1 at *
  obtain ⟨h2, h3, e2, X2, R3, V3⟩ := s_rat X1
  generalize hq2 : stp tp n q1 64 = q2 at *
  have k0 : k ≠ 0 ∧ k ≠ 25 := by omega
  have z2 := fun K => (s_put (α := CT) X2 (c := 112) (o := 4) (oo := 4) (by decide) (by decide) rfl (by simp [okp, itK, k0]) hw ⟨h3, rfl, R3, V3⟩ K).1
  have X3 := (s_put X2 (c := 112) (o := 4) (oo := 4) (by decide) (by decide) rfl (by simp [okp, itK, k0]) hw ⟨h3, rfl, R3, V3⟩ some).2
  generalize hq3 : stp tp n q2 112 = q3 at *
  obtain ⟨x, h4, e4, e5, R4, V4⟩ := s_of X3.1
  have X4 := X3.txt (by decide) (by decide) R4 V4
  generalize hq4 : stp tp n q3 102 = q4 at *
  obtain ⟨h5, e6, R5, V5⟩ := s_row X4.1 (c := 98) (by decide)
  obtain ⟨z3, X5⟩ := s_put X4 (c := 98) (o := 3) (oo := 3) (by decide) (by decide) rfl (by simp [okp, itK]) hw ⟨h5, rfl, R5, V5⟩ some
  generalize hq5 : stp tp n q4 98 = q5 at *
  have er : rdl tp n q [100, 64, 112, 102, 98] = q5 := by rw [← hq5, ← hq4, ← hq3, ← hq2, ← hq1]; rfl
  rw [er]
  have b35 : ∀ z, pX13_readMemory_b35 g (B + 187) (nI w) z (sI h3 (B + 192) (w + 4) (if q3.1 = 0 then q3.2.2 (itK 112) else 0)) = some (sI h5 (B + 192) (w + 3) (if q5.1 = 0 then q5.2.2 (itK 98) else 0)) := fun z => by
    unfold pX13_readMemory_b35
    rw [e4, w_bd, e5, w_bd, w_lt, X4.pr, e6, w_bd2, z3]
  unfold pX13_readMemory
  rw [w_tg X.tg, w_lt, X.pr, e1, w_bd2, z1, w_lt, X1.pr, e2, w_bd2, z2]
  refine ⟨_, ?_, X5⟩
  rcases hk with rfl | rfl
  · rw [if_pos (show nI 5 = 5 from rfl), b35]
  · rw [if_neg (by decide), if_pos (show nI 6 = 6 from rfl), b35]
theorem t_rec1 (X : SR B g h0 h tp n w k q) (hw : w + 7 < 1230) (hk : 7 ≤ k ∧ k ≤ 13) : ∃ h', pX13_readReckoned g h (B + 187) (nI w) (nI k) = some h' ∧ SR B g h0 h' tp n w k (rdl tp n q [100, 97, 98, 109]) := by
  obtain ⟨h1, e1, R1, V1⟩ := s_row X.1 (c := 100) (by decide)
  have z1 := fun K => (s_put (α := CT) X (c := 100) (o := 1) (oo := 1) (by decide) (by decide) rfl (by simp [okp, itK]) hw ⟨h1, rfl, R1, V1⟩ K).1
  have X1 := (s_put X (c := 100) (o := 1) (oo := 1) (by decide) (by decide) rfl (by simp [okp, itK]) hw ⟨h1, rfl, R1, V1⟩ some).2
  obtain ⟨h2, e2, R2, V2⟩ := s_row X1.1 (c := 97) (by decide)
  have z2 := fun K => (s_put (α := CT) X1 (c := 97) (o := 2) (oo := 2) (by decide) (by decide) rfl (by simp [okp, itK]) hw ⟨h2, rfl, R2, V2⟩ K).1
  have X2 := (s_put X1 (c := 97) (o := 2) (oo := 2) (by decide) (by decide) rfl (by simp [okp, itK]) hw ⟨h2, rfl, R2, V2⟩ some).2
  obtain ⟨h3, e3, R3, V3⟩ := s_row X2.1 (c := 98) (by decide)
  have z3 := fun K => (s_put (α := CT) X2 (c := 98) (o := 3) (oo := 3) (by decide) (by decide) rfl (by simp [okp, itK]) hw ⟨h3, rfl, R3, V3⟩ K).1
  have X3 := (s_put X2 (c := 98) (o := 3) (oo := 3) (by decide) (by decide) rfl (by simp [okp, itK]) hw ⟨h3, rfl, R3, V3⟩ some).2
  obtain ⟨h4, e4, X4⟩ := s_msk (z := nI k) X3 hw
  have n14 : ¬ (14 : Int32) ≤ nI k := nI_ge (b := 14) (by omega) (by omega)
  unfold pX13_readReckoned
  rw [w_tg X.tg, w_lt, X.pr, e1, w_bd2, z1, w_lt, X1.pr, e2, w_bd2, z2, if_neg n14, w_lt, X2.pr, e3, w_bd2, z3, e4]
  exact ⟨_, rfl, X4⟩
theorem t_rec2 (X : SR B g h0 h tp n w k q) (hw : w + 7 < 1230) (hk : 14 ≤ k ∧ k ≤ 16) : ∃ h', pX13_readReckoned g h (B + 187) (nI w) (nI k) = some h' ∧ SR B g h0 h' tp n w k (rdl tp n q [100, 97, 109]) := by
  obtain ⟨h1, e1, R1, V1⟩ := s_row X.1 (c := 100) (by decide)
  have z1 := fun K => (s_put (α := CT) X (c := 100) (o := 1) (oo := 1) (by decide) (by decide) rfl (by simp [okp, itK]) hw ⟨h1, rfl, R1, V1⟩ K).1
  have X1 := (s_put X (c := 100) (o := 1) (oo := 1) (by decide) (by decide) rfl (by simp [okp, itK]) hw ⟨h1, rfl, R1, V1⟩ some).2
  obtain ⟨h2, e2, R2, V2⟩ := s_row X1.1 (c := 97) (by decide)
  have z2 := fun K => (s_put (α := CT) X1 (c := 97) (o := 2) (oo := 2) (by decide) (by decide) rfl (by simp [okp, itK]) hw ⟨h2, rfl, R2, V2⟩ K).1
  have X2 := (s_put X1 (c := 97) (o := 2) (oo := 2) (by decide) (by decide) rfl (by simp [okp, itK]) hw ⟨h2, rfl, R2, V2⟩ some).2
  obtain ⟨h4, e4, X4⟩ := s_msk (z := nI k) X2 hw
  have n14 : (14 : Int32) ≤ nI k := nI_le (a := 14) (by omega) (by omega)
  unfold pX13_readReckoned
  rw [w_tg X.tg, w_lt, X.pr, e1, w_bd2, z1, w_lt, X1.pr, e2, w_bd2, z2, if_pos n14, e4]
  exact ⟨_, rfl, X4⟩
theorem t_cnt (X : SR B g h0 h tp n w k q) (hw : w + 7 < 1230) {c m : Int32} (hc : c = 118 ∧ m = 16 ∨ c = 110 ∧ m = 200) (hk : k = 0 ∨ k = 25) : ∃ h', (lt (hR h (B + 187) 19) fun r23 => (bd2 (pX13_countOf g h (B + 187) 0 m) fun x26 h24 => (nn r23 fun a23 => (tg g a23 20 (ix (gL g a23) (nI w + 4) (lt (sI h24 a23 (Int32.toNatClampNeg (nI w + 4)) x26) fun h29 => (some h29))))))) = some h' ∧ SR B g h0 h' tp n w k (rdl tp n q [c]) := by
  obtain ⟨h1, e1, R1, V1⟩ := s_cnt X.1 (c := c) (m := m) (by rcases hc with ⟨rfl, rfl⟩ | ⟨rfl, rfl⟩ <;> decide) (by rcases hc with ⟨rfl, rfl⟩ | ⟨rfl, rfl⟩ <;> rfl)
  obtain ⟨z1, X1⟩ := s_put X (c := c) (o := 4) (oo := 4) (by rcases hc with ⟨rfl, rfl⟩ | ⟨rfl, rfl⟩ <;> decide) (by rcases hc with ⟨rfl, rfl⟩ | ⟨rfl, rfl⟩ <;> decide) rfl (by rcases hc with ⟨rfl, rfl⟩ | ⟨rfl, rfl⟩ <;> simp [okp, itK, hk]) hw ⟨h1, rfl, R1, V1⟩ some
  rw [w_lt, X.pr, e1, w_bd2, z1]
  exact ⟨_, rfl, X1⟩
theorem t_fill (X : SR B g h0 h tp n w k q) (hw : w + 7 < 1230) (hk : k = 2) : ∃ h', (lt (hR h (B + 187) 19) fun r9 => (bd2 (pX13_readRow g h (B + 187)) fun x12 h10 => (nn r9 fun a9 => (tg g a9 20 (ix (gL g a9) (nI w + 1) (lt (sI h10 a9 (Int32.toNatClampNeg (nI w + 1)) x12) fun h15 => (lt (hR h15 (B + 187) 19) fun r16 => (bd2 (pX13_readScalar g h15 (B + 187)) fun x19 h17 => (nn r16 fun a16 => (tg g a16 20 (ix (gL g a16) (nI w + 5) (lt (sI h17 a16 (Int32.toNatClampNeg (nI w + 5)) x19) fun h22 => (some h22))))))))))))) = some h' ∧ SR B g h0 h' tp n w k (rdl tp n q [100, 115]) := by
  obtain ⟨h1, e1, R1, V1⟩ := s_row X.1 (c := 100) (by decide)
  have z1 := fun K => (s_put (α := CT) X (c := 100) (o := 1) (oo := 1) (by decide) (by decide) rfl (by simp [okp, itK]) hw ⟨h1, rfl, R1, V1⟩ K).1
  have X1 := (s_put X (c := 100) (o := 1) (oo := 1) (by decide) (by decide) rfl (by simp [okp, itK]) hw ⟨h1, rfl, R1, V1⟩ some).2
  obtain ⟨h2, e2, R2, V2⟩ := s_sca X1.1
  obtain ⟨z2, X2⟩ := s_put X1 (c := 115) (o := 5) (oo := 5) (by decide) (by decide) rfl (by simp [okp, itK, hk]) hw ⟨h2, rfl, R2, V2⟩ some
  rw [w_lt, X.pr, e1, w_bd2, z1, w_lt, X1.pr, e2, w_bd2, z2]
  exact ⟨_, rfl, X2⟩
theorem t_sca (X : SR B g h0 h tp n w k q) (hw : w + 7 < 1230) (hk : k ≠ 3 ∧ k ≠ 4) : ∃ h', (lt (hR h (B + 187) 19) fun r15 => (bd2 (pX13_readScalar g h (B + 187)) fun x18 h16 => (nn r15 fun a15 => (tg g a15 20 (ix (gL g a15) (nI w + 5) (lt (sI h16 a15 (Int32.toNatClampNeg (nI w + 5)) x18) fun h21 => (some h21))))))) = some h' ∧ SR B g h0 h' tp n w k (rdl tp n q [115]) := by
  obtain ⟨h1, e1, R1, V1⟩ := s_sca X.1
  obtain ⟨z1, X1⟩ := s_put X (c := 115) (o := 5) (oo := 5) (by decide) (by decide) rfl (by simp [okp, itK, hk]) hw ⟨h1, rfl, R1, V1⟩ some
  rw [w_lt, X.pr, e1, w_bd2, z1]
  exact ⟨_, rfl, X1⟩
/-- the forms, but for the sign at their ends -/
def frP (k : Nat) : List Int32 := if k = 0 then [118] else if k = 1 ∨ k = 19 then [100] else if k = 2 then [100, 115] else if k = 3 ∨ k = 4 then [100, 64, 112, 42, 121] else if k = 5 ∨ k = 6 then [100, 64, 112, 102, 98] else if 7 ≤ k ∧ k ≤ 13 then [100, 97, 98, 109] else if 14 ≤ k ∧ k ≤ 16 then [100, 97, 109] else if k = 17 ∨ k = 18 ∨ k = 21 then [100, 97] else if k = 22 then [115] else if k = 23 ∨ k = 24 then [115, 100] else if k = 25 then [110] else []
theorem frm : ∀ k, k < 28 → stB (opD k).2.2.1 = frP k ++ [59] ∧ (opD k).2.2.1 < 45 := by decide +kernel
theorem m_rest (X : SR B g h0 h tp n w k q) (hk : k < 27) (hw : w + 7 < 1230) : ∃ h', pX13_readRest g h (B + 187) (nI w) (nI k) = some h' ∧ SR B g h0 h' tp n w k (rdl tp n q (frP k)) := by
  unfold pX13_readRest
  rw [w_tg X.tg]
  by_cases k0 : k = 0
  · subst k0
    rw [if_pos (show nI 0 = 0 from rfl)]
    exact t_cnt X hw (Or.inl ⟨rfl, rfl⟩) (Or.inl rfl)
  rw [if_neg (show ¬ nI k = 0 from fun e => k0 ((nI_eq (b := 0) (by omega) (by omega)).mp e))]
  by_cases k1 : k = 1
  · subst k1
    rw [if_pos (show nI 1 = 1 from rfl)]
    exact t_b33 X hw
  rw [if_neg (show ¬ nI k = 1 from fun e => k1 ((nI_eq (b := 1) (by omega) (by omega)).mp e))]
  by_cases k19 : k = 19
  · subst k19
    rw [if_pos (show nI 19 = 19 from rfl)]
    exact t_b33 X hw
  rw [if_neg (show ¬ nI k = 19 from fun e => k19 ((nI_eq (b := 19) (by omega) (by omega)).mp e))]
  by_cases k2 : k = 2
  · subst k2
    rw [if_pos (show nI 2 = 2 from rfl)]
    exact t_fill X hw rfl
  rw [if_neg (show ¬ nI k = 2 from fun e => k2 ((nI_eq (b := 2) (by omega) (by omega)).mp e)), if_neg (show ¬ nI k < 3 from nI_nlt (b := 3) (by omega) (by omega))]
  by_cases m6 : k ≤ 6
  · rw [if_neg (show ¬ (6 : Int32) < nI k from nI_nlt (a := 6) (by omega) (by omega))]
    by_cases m4 : k = 3 ∨ k = 4
    · obtain ⟨h', e, Y⟩ := t_mem1 X hw m4
      rw [e, w_bd]
      refine ⟨h', rfl, ?_⟩
      rcases m4 with rfl | rfl <;> exact Y
    · have m5 : k = 5 ∨ k = 6 := by omega
      obtain ⟨h', e, Y⟩ := t_mem2 X hw m5
      rw [e, w_bd]
      refine ⟨h', rfl, ?_⟩
      rcases m5 with rfl | rfl <;> exact Y
  rw [if_pos (show (6 : Int32) < nI k from nI_lt (a := 6) (by omega) (by omega))]
  unfold pX13_readRest_b100
  rw [if_neg (show ¬ nI k < 7 from nI_nlt (b := 7) (by omega) (by omega))]
  by_cases m16 : k ≤ 16
  · rw [if_neg (show ¬ (16 : Int32) < nI k from nI_nlt (a := 16) (by omega) (by omega))]
    by_cases m13 : k ≤ 13
    · obtain ⟨h', e, Y⟩ := t_rec1 X hw ⟨by omega, m13⟩
      rw [e, w_bd]
      have ef : frP k = [100, 97, 98, 109] := by
        unfold frP
        rw [if_neg k0, if_neg (by omega), if_neg k2, if_neg (by omega), if_neg (by omega), if_pos (by omega)]
      rw [ef]
      exact ⟨h', rfl, Y⟩
    · obtain ⟨h', e, Y⟩ := t_rec2 X hw ⟨by omega, m16⟩
      rw [e, w_bd]
      have ef : frP k = [100, 97, 109] := by
        unfold frP
        rw [if_neg k0, if_neg (by omega), if_neg k2, if_neg (by omega), if_neg (by omega), if_neg (by omega), if_pos (by omega)]
      rw [ef]
      exact ⟨h', rfl, Y⟩
  rw [if_pos (show (16 : Int32) < nI k from nI_lt (a := 16) (by omega) (by omega))]
  unfold pX13_readRest_b121
  have cs : k = 17 ∨ k = 18 ∨ k = 20 ∨ k = 21 ∨ k = 22 ∨ k = 23 ∨ k = 24 ∨ k = 25 ∨ k = 26 := by omega
  rcases cs with rfl | rfl | rfl | rfl | rfl | rfl | rfl | rfl | rfl
  · rw [if_pos (by decide)]; exact t_b139 X hw
  · rw [if_neg (by decide), if_pos (by decide)]; exact t_b139 X hw
  · rw [if_neg (by decide), if_neg (by decide), if_neg (by decide), if_neg (by decide), if_neg (by decide), if_neg (by decide), if_neg (by decide)]
    exact ⟨h, rfl, X⟩
  · rw [if_neg (by decide), if_neg (by decide), if_pos (by decide)]; exact t_b139 X hw
  · rw [if_neg (by decide), if_neg (by decide), if_neg (by decide), if_pos (by decide)]; exact t_sca X hw (by decide)
  · rw [if_neg (by decide), if_neg (by decide), if_neg (by decide), if_neg (by decide), if_pos (by decide)]; exact t_b199 X hw (by decide)
  · rw [if_neg (by decide), if_neg (by decide), if_neg (by decide), if_neg (by decide), if_neg (by decide), if_pos (by decide)]; exact t_b199 X hw (by decide)
  · rw [if_neg (by decide), if_neg (by decide), if_neg (by decide), if_neg (by decide), if_neg (by decide), if_neg (by decide), if_pos (by decide)]
    exact t_cnt X hw (Or.inr ⟨rfl, rfl⟩) (Or.inr rfl)
  · rw [if_neg (by decide), if_neg (by decide), if_neg (by decide), if_neg (by decide), if_neg (by decide), if_neg (by decide), if_neg (by decide)]
    exact ⟨h, rfl, X⟩
end FRK
