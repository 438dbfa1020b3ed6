/-! feed -/
def tb (x : Int32) (s : Int32) : Int32 := vp_nar .byte (Int8.toInt32 (Int32.toInt8 (x >>> (s &&& 31))))
def by4 (f : Nat → Int32) (n : Nat) (x : Int32) : Nat → Int32 := ud (ud (ud (ud f n (tb x 24)) (n + 1) (tb x 16)) (n + 2) (tb x 8)) (n + 3) (tb x 0)
theorem tb_byte (x s : Int32) : isByte (tb x s) := by
  unfold isByte tb
  rw [pk_vb, Int8.toInt8_toInt32]
theorem ud_byte {f : Nat → Int32} {n : Nat} {x : Int32} (h : ∀ k, isByte (f k)) (hx : isByte x) : ∀ k, isByte (ud f n x k) := fun k => by
  by_cases e : k = n
  · rw [e, ud_s]; exact hx
  · rw [ud_n e]; exact h k
theorem by4_byte {f : Nat → Int32} {n : Nat} {x : Int32} (h : ∀ k, isByte (f k)) : ∀ k, isByte (by4 f n x k) := ud_byte (ud_byte (ud_byte (ud_byte h (tb_byte _ _)) (tb_byte _ _)) (tb_byte _ _)) (tb_byte _ _)
section FEED
variable {B : Nat} {E : EC} {op : Nat → Nat} {g : MT} {h hc hr : CT} {n : Nat}
theorem k_tape (S : Sh B g) (p : PtC B (hR h)) (x : Int32) (hn : hI h B 2 = nI n) (h4 : n + 4 ≤ 900) : ∃ h', pX12_tapeInt g h B x = some h' ∧ hI h' B = ud (hI h B) 2 (nI (n + 4)) ∧ hI h' (B + 10) = by4 (hI h (B + 10)) n x ∧ But2 B (B + 10) h h' ∧ hL h' = hL h := by
  unfold pX12_tapeInt
  rw [w_tg (st_0 S), show FUEL = 4995 + 1 + 1 + 1 + 1 + 1 from rfl]
  have f0 : hI h B 2 = nI (n + 0) := hn
  have q0 : hR h B 1 = some (B + 10) := pc_0_1 p
  rw [pX12_tapeInt_l3, pX12_tapeInt_b3, if_neg (show ¬ (24 : Int32) < 0 by decide), f0, if_neg (show ¬ 900 ≤ nI (n + 0) from nI_ge (b := 900) (by omega) (by decide)), w_lt, q0, w_nn, w_tg (st_10 S), sl_10 S, w_ix (show n + 0 < 900 by omega) (by decide), w_lt, nI_clamp (show n + 0 < 2 ^ 31 by omega), w_lt, w_lt]
  rw [show hI (sI h (B + 10) (n + 0) (vp_nar .byte (Int8.toInt32 (Int32.toInt8 (x >>> (24 &&& 31)))))) B 2 = nI (n + 0) from by rw [hI_sI, if_neg (by omega)]; exact f0, nI_1, show (24 : Int32) + (-8) = 16 from by decide]
  rw [show vp_nar .byte (Int8.toInt32 (Int32.toInt8 (x >>> ((24 : Int32) &&& 31)))) = tb x 24 from rfl]
  have f1 : hI (sI (sI h (B + 10) (n + 0) (tb x 24)) B 2 (nI (n + 0 + 1))) B 2 = nI (n + 1) := by rw [hI_sI, if_pos rfl, ud_s]
  have q1 : hR (sI (sI h (B + 10) (n + 0) (tb x 24)) B 2 (nI (n + 0 + 1))) B 1 = some (B + 10) := pc_0_1 p
  rw [pX12_tapeInt_l3, pX12_tapeInt_b3, if_neg (show ¬ (16 : Int32) < 0 by decide), f1, if_neg (show ¬ 900 ≤ nI (n + 1) from nI_ge (b := 900) (by omega) (by decide)), w_lt, q1, w_nn, w_tg (st_10 S), sl_10 S, w_ix (show n + 1 < 900 by omega) (by decide), w_lt, nI_clamp (show n + 1 < 2 ^ 31 by omega), w_lt, w_lt]
  rw [show hI (sI (sI (sI h (B + 10) (n + 0) (tb x 24)) B 2 (nI (n + 0 + 1))) (B + 10) (n + 1) (vp_nar .byte (Int8.toInt32 (Int32.toInt8 (x >>> (16 &&& 31)))))) B 2 = nI (n + 1) from by rw [hI_sI, if_neg (by omega)]; exact f1, nI_1, show (16 : Int32) + (-8) = 8 from by decide]
  rw [show vp_nar .byte (Int8.toInt32 (Int32.toInt8 (x >>> ((16 : Int32) &&& 31)))) = tb x 16 from rfl]
  have f2 : hI (sI (sI (sI (sI h (B + 10) (n + 0) (tb x 24)) B 2 (nI (n + 0 + 1))) (B + 10) (n + 1) (tb x 16)) B 2 (nI (n + 1 + 1))) B 2 = nI (n + 2) := by rw [hI_sI, if_pos rfl, ud_s]
  have q2 : hR (sI (sI (sI (sI h (B + 10) (n + 0) (tb x 24)) B 2 (nI (n + 0 + 1))) (B + 10) (n + 1) (tb x 16)) B 2 (nI (n + 1 + 1))) B 1 = some (B + 10) := pc_0_1 p
  rw [pX12_tapeInt_l3, pX12_tapeInt_b3, if_neg (show ¬ (8 : Int32) < 0 by decide), f2, if_neg (show ¬ 900 ≤ nI (n + 2) from nI_ge (b := 900) (by omega) (by decide)), w_lt, q2, w_nn, w_tg (st_10 S), sl_10 S, w_ix (show n + 2 < 900 by omega) (by decide), w_lt, nI_clamp (show n + 2 < 2 ^ 31 by omega), w_lt, w_lt]
  rw [show hI (sI (sI (sI (sI (sI h (B + 10) (n + 0) (tb x 24)) B 2 (nI (n + 0 + 1))) (B + 10) (n + 1) (tb x 16)) B 2 (nI (n + 1 + 1))) (B + 10) (n + 2) (vp_nar .byte (Int8.toInt32 (Int32.toInt8 (x >>> (8 &&& 31)))))) B 2 = nI (n + 2) from by rw [hI_sI, if_neg (by omega)]; exact f2, nI_1, show (8 : Int32) + (-8) = 0 from by decide]
  rw [show vp_nar .byte (Int8.toInt32 (Int32.toInt8 (x >>> ((8 : Int32) &&& 31)))) = tb x 8 from rfl]
  have f3 : hI (sI (sI (sI (sI (sI (sI h (B + 10) (n + 0) (tb x 24)) B 2 (nI (n + 0 + 1))) (B + 10) (n + 1) (tb x 16)) B 2 (nI (n + 1 + 1))) (B + 10) (n + 2) (tb x 8)) B 2 (nI (n + 2 + 1))) B 2 = nI (n + 3) := by rw [hI_sI, if_pos rfl, ud_s]
  have q3 : hR (sI (sI (sI (sI (sI (sI h (B + 10) (n + 0) (tb x 24)) B 2 (nI (n + 0 + 1))) (B + 10) (n + 1) (tb x 16)) B 2 (nI (n + 1 + 1))) (B + 10) (n + 2) (tb x 8)) B 2 (nI (n + 2 + 1))) B 1 = some (B + 10) := pc_0_1 p
  rw [pX12_tapeInt_l3, pX12_tapeInt_b3, if_neg (show ¬ (0 : Int32) < 0 by decide), f3, if_neg (show ¬ 900 ≤ nI (n + 3) from nI_ge (b := 900) (by omega) (by decide)), w_lt, q3, w_nn, w_tg (st_10 S), sl_10 S, w_ix (show n + 3 < 900 by omega) (by decide), w_lt, nI_clamp (show n + 3 < 2 ^ 31 by omega), w_lt, w_lt]
  rw [show hI (sI (sI (sI (sI (sI (sI (sI h (B + 10) (n + 0) (tb x 24)) B 2 (nI (n + 0 + 1))) (B + 10) (n + 1) (tb x 16)) B 2 (nI (n + 1 + 1))) (B + 10) (n + 2) (tb x 8)) B 2 (nI (n + 2 + 1))) (B + 10) (n + 3) (vp_nar .byte (Int8.toInt32 (Int32.toInt8 (x >>> (0 &&& 31)))))) B 2 = nI (n + 3) from by rw [hI_sI, if_neg (by omega)]; exact f3, nI_1, show (0 : Int32) + (-8) = -8 from by decide]
  rw [show vp_nar .byte (Int8.toInt32 (Int32.toInt8 (x >>> ((0 : Int32) &&& 31)))) = tb x 0 from rfl]
  rw [pX12_tapeInt_l3, pX12_tapeInt_b3, if_pos (show (-8 : Int32) < 0 by decide)]
  refine ⟨_, rfl, ?_, ?_, ⟨rfl, fun z z1 z2 => ?_⟩, rfl⟩
  · funext j
    simp only [hI_sI, if_true, show (B = B + 10) = False from by apply eq_false; omega, if_false, ud]
    split <;> rfl
  · simp only [hI_sI, if_true, show (B + 10 = B) = False from by apply eq_false; omega, if_false]
    rfl
  · exact ((((((((Eqa.rf h z).sI z2).sI z1).sI z2).sI z1).sI z2).sI z1).sI z2).sI z1
theorem m_lay (S : Sh B g) (p : PtR B (hR h)) (x : Int32) (hn : hI h (B + 187) 8 = nI n) (h4 : n + 4 ≤ 900) : ∃ h', pX13_lay g h (B + 187) x = some h' ∧ hI h' (B + 187) = ud (hI h (B + 187)) 8 (nI (n + 4)) ∧ hI h' (B + 191) = by4 (hI h (B + 191)) n x ∧ But2 (B + 187) (B + 191) h h' ∧ hL h' = hL h := by
  unfold pX13_lay
  rw [w_tg (st_187 S), show FUEL = 4995 + 1 + 1 + 1 + 1 + 1 from rfl]
  have f0 : hI h (B + 187) 8 = nI (n + 0) := hn
  have q0 : hR h (B + 187) 7 = some (B + 191) := pr_187_7 p
  rw [pX13_lay_l2, pX13_lay_b2, if_neg (show ¬ (3 : Int32) < 0 by decide), w_lt, q0, w_nn, w_tg (st_191 S), sl_191 S, f0, w_ix (show n + 0 < 900 by omega) (by decide), w_lt, nI_clamp (show n + 0 < 2 ^ 31 by omega), w_lt, w_lt]
  rw [show hI (sI h (B + 191) (n + 0) (vp_nar .byte (Int8.toInt32 (Int32.toInt8 (x >>> (8 * 3 &&& 31)))))) (B + 187) 8 = nI (n + 0) from by rw [hI_sI, if_neg (by omega)]; exact f0, nI_1, show (3 : Int32) + (-1) = 2 from by decide]
  rw [show ((8 : Int32) * 3) = 24 from by decide]
  rw [show vp_nar .byte (Int8.toInt32 (Int32.toInt8 (x >>> ((24 : Int32) &&& 31)))) = tb x 24 from rfl]
  have f1 : hI (sI (sI h (B + 191) (n + 0) (tb x 24)) (B + 187) 8 (nI (n + 0 + 1))) (B + 187) 8 = nI (n + 1) := by rw [hI_sI, if_pos rfl, ud_s]
  have q1 : hR (sI (sI h (B + 191) (n + 0) (tb x 24)) (B + 187) 8 (nI (n + 0 + 1))) (B + 187) 7 = some (B + 191) := pr_187_7 p
  rw [pX13_lay_l2, pX13_lay_b2, if_neg (show ¬ (2 : Int32) < 0 by decide), w_lt, q1, w_nn, w_tg (st_191 S), sl_191 S, f1, w_ix (show n + 1 < 900 by omega) (by decide), w_lt, nI_clamp (show n + 1 < 2 ^ 31 by omega), w_lt, w_lt]
  rw [show hI (sI (sI (sI h (B + 191) (n + 0) (tb x 24)) (B + 187) 8 (nI (n + 0 + 1))) (B + 191) (n + 1) (vp_nar .byte (Int8.toInt32 (Int32.toInt8 (x >>> (8 * 2 &&& 31)))))) (B + 187) 8 = nI (n + 1) from by rw [hI_sI, if_neg (by omega)]; exact f1, nI_1, show (2 : Int32) + (-1) = 1 from by decide]
  rw [show ((8 : Int32) * 2) = 16 from by decide]
  rw [show vp_nar .byte (Int8.toInt32 (Int32.toInt8 (x >>> ((16 : Int32) &&& 31)))) = tb x 16 from rfl]
  have f2 : hI (sI (sI (sI (sI h (B + 191) (n + 0) (tb x 24)) (B + 187) 8 (nI (n + 0 + 1))) (B + 191) (n + 1) (tb x 16)) (B + 187) 8 (nI (n + 1 + 1))) (B + 187) 8 = nI (n + 2) := by rw [hI_sI, if_pos rfl, ud_s]
  have q2 : hR (sI (sI (sI (sI h (B + 191) (n + 0) (tb x 24)) (B + 187) 8 (nI (n + 0 + 1))) (B + 191) (n + 1) (tb x 16)) (B + 187) 8 (nI (n + 1 + 1))) (B + 187) 7 = some (B + 191) := pr_187_7 p
  rw [pX13_lay_l2, pX13_lay_b2, if_neg (show ¬ (1 : Int32) < 0 by decide), w_lt, q2, w_nn, w_tg (st_191 S), sl_191 S, f2, w_ix (show n + 2 < 900 by omega) (by decide), w_lt, nI_clamp (show n + 2 < 2 ^ 31 by omega), w_lt, w_lt]
  rw [show hI (sI (sI (sI (sI (sI h (B + 191) (n + 0) (tb x 24)) (B + 187) 8 (nI (n + 0 + 1))) (B + 191) (n + 1) (tb x 16)) (B + 187) 8 (nI (n + 1 + 1))) (B + 191) (n + 2) (vp_nar .byte (Int8.toInt32 (Int32.toInt8 (x >>> (8 * 1 &&& 31)))))) (B + 187) 8 = nI (n + 2) from by rw [hI_sI, if_neg (by omega)]; exact f2, nI_1, show (1 : Int32) + (-1) = 0 from by decide]
  rw [show ((8 : Int32) * 1) = 8 from by decide]
  rw [show vp_nar .byte (Int8.toInt32 (Int32.toInt8 (x >>> ((8 : Int32) &&& 31)))) = tb x 8 from rfl]
  have f3 : hI (sI (sI (sI (sI (sI (sI h (B + 191) (n + 0) (tb x 24)) (B + 187) 8 (nI (n + 0 + 1))) (B + 191) (n + 1) (tb x 16)) (B + 187) 8 (nI (n + 1 + 1))) (B + 191) (n + 2) (tb x 8)) (B + 187) 8 (nI (n + 2 + 1))) (B + 187) 8 = nI (n + 3) := by rw [hI_sI, if_pos rfl, ud_s]
  have q3 : hR (sI (sI (sI (sI (sI (sI h (B + 191) (n + 0) (tb x 24)) (B + 187) 8 (nI (n + 0 + 1))) (B + 191) (n + 1) (tb x 16)) (B + 187) 8 (nI (n + 1 + 1))) (B + 191) (n + 2) (tb x 8)) (B + 187) 8 (nI (n + 2 + 1))) (B + 187) 7 = some (B + 191) := pr_187_7 p
  rw [pX13_lay_l2, pX13_lay_b2, if_neg (show ¬ (0 : Int32) < 0 by decide), w_lt, q3, w_nn, w_tg (st_191 S), sl_191 S, f3, w_ix (show n + 3 < 900 by omega) (by decide), w_lt, nI_clamp (show n + 3 < 2 ^ 31 by omega), w_lt, w_lt]
  rw [show hI (sI (sI (sI (sI (sI (sI (sI h (B + 191) (n + 0) (tb x 24)) (B + 187) 8 (nI (n + 0 + 1))) (B + 191) (n + 1) (tb x 16)) (B + 187) 8 (nI (n + 1 + 1))) (B + 191) (n + 2) (tb x 8)) (B + 187) 8 (nI (n + 2 + 1))) (B + 191) (n + 3) (vp_nar .byte (Int8.toInt32 (Int32.toInt8 (x >>> (8 * 0 &&& 31)))))) (B + 187) 8 = nI (n + 3) from by rw [hI_sI, if_neg (by omega)]; exact f3, nI_1, show (0 : Int32) + (-1) = -1 from by decide]
  rw [show ((8 : Int32) * 0) = 0 from by decide]
  rw [show vp_nar .byte (Int8.toInt32 (Int32.toInt8 (x >>> ((0 : Int32) &&& 31)))) = tb x 0 from rfl]
  rw [pX13_lay_l2, pX13_lay_b2, if_pos (show (-1 : Int32) < 0 by decide)]
  refine ⟨_, rfl, ?_, ?_, ⟨rfl, fun z z1 z2 => ?_⟩, rfl⟩
  · funext j
    simp only [hI_sI, if_true, show ((B + 187) = B + 191) = False from by apply eq_false; omega, if_false, ud]
    split <;> rfl
  · simp only [hI_sI, if_true, show (B + 191 = (B + 187)) = False from by apply eq_false; omega, if_false]
    rfl
  · exact ((((((((Eqa.rf h z).sI z2).sI z1).sI z2).sI z1).sI z2).sI z1).sI z2).sI z1
theorem C_feed : K_feed B E op := by
  intro a0 a1 a2 a3 a4 g hc hr H
  have S := H.1
  have p1 := H.2.1
  have p2 := H.2.2.1
  obtain ⟨⟨n, hn, tn⟩, te, tb'⟩ := H.2.2.2.2.2.2.1
  obtain ⟨q1, q2, q3, q4, q5, q6, q7, q8, q9⟩ := H.2.2.2.1
  have tn' : hI (sI hr (B + 187) 1 0) (B + 187) 8 = nI n := by rw [hI_sI, if_pos rfl, ud_n (by decide), ← q2, tn]
  have cmp : (nI n + 20 ≤ 900) = (n + 20 ≤ 900) := by
    rw [show (nI n + 20 : Int32) = nI (n + 20) from nI_add n 20]
    exact propext (nI_leI (b := 900) (by omega) (by decide))
  by_cases c : n + 20 ≤ 900
  · obtain ⟨h1, e1, f1, g1, b1, -⟩ := k_tape S p1 a0 tn (by omega)
    obtain ⟨h2, e2, f2, g2, b2, -⟩ := k_tape (n := n + 4) (h := h1) S (by rw [b1.1]; exact p1) a1 (by rw [f1]; exact ud_s _ _ _) (by omega)
    obtain ⟨h3, e3, f3, g3, b3, -⟩ := k_tape (n := n + 4 + 4) (h := h2) S (by rw [b2.1, b1.1]; exact p1) a2 (by rw [f2]; exact ud_s _ _ _) (by omega)
    obtain ⟨h4, e4, f4, g4, b4, -⟩ := k_tape (n := n + 4 + 4 + 4) (h := h3) S (by rw [b3.1, b2.1, b1.1]; exact p1) a3 (by rw [f3]; exact ud_s _ _ _) (by omega)
    obtain ⟨h5, e5, f5, g5, b5, -⟩ := k_tape (n := n + 4 + 4 + 4 + 4) (h := h4) S (by rw [b4.1, b3.1, b2.1, b1.1]; exact p1) a4 (by rw [f4]; exact ud_s _ _ _) (by omega)
    obtain ⟨i1, u1, v1, w1, c1, y1⟩ := m_lay (h := sI hr (B + 187) 1 0) S p2 a0 tn' (by omega)
    obtain ⟨i2, u2, v2, w2, c2, y2⟩ := m_lay (n := n + 4) (h := i1) S (by rw [c1.1]; exact p2) a1 (by rw [v1]; exact ud_s _ _ _) (by omega)
    obtain ⟨i3, u3, v3, w3, c3, y3⟩ := m_lay (n := n + 4 + 4) (h := i2) S (by rw [c2.1, c1.1]; exact p2) a2 (by rw [v2]; exact ud_s _ _ _) (by omega)
    obtain ⟨i4, u4, v4, w4, c4, y4⟩ := m_lay (n := n + 4 + 4 + 4) (h := i3) S (by rw [c3.1, c2.1, c1.1]; exact p2) a3 (by rw [v3]; exact ud_s _ _ _) (by omega)
    obtain ⟨i5, u5, v5, w5, c5, y5⟩ := m_lay (n := n + 4 + 4 + 4 + 4) (h := i4) S (by rw [c4.1, c3.1, c2.1, c1.1]; exact p2) a4 (by rw [v4]; exact ud_s _ _ _) (by omega)
    have bC : But2 B (B + 10) hc h5 := b1.tr (b2.tr (b3.tr (b4.tr b5)))
    have bR : But2 (B + 187) (B + 191) (sI hr (B + 187) 1 0) i5 := c1.tr (c2.tr (c3.tr (c4.tr c5)))
    have F : hI h5 B = ud (hI hc B) 2 (nI (n + 20)) := by
      rw [f5, f4, f3, f2, f1]
      funext j
      simp only [ud]
      split <;> rfl
    have V : hI i5 (B + 187) = ud (ud (hI hr (B + 187)) 1 0) 8 (nI (n + 20)) := by
      rw [v5, v4, v3, v2, v1, hI_sI, if_pos rfl]
      funext j
      simp only [ud]
      split <;> rfl
    have o1 : OfC B [0, 10] hc h5 := fun a z1 z2 => bC.2 a (z2 0 (by simp)) (z2 10 (by simp))
    have o2 : OfR B [187, 191] hr i5 := fun a z1 z2 => ((Eqa.rf hr a).sI (z2 187 (by simp))).tr (bR.2 a (z2 187 (by simp)) (z2 191 (by simp)))
    have d5 := o2.at 192 (by omega) (by omega) (by simp)
    have d6 := o2.at 193 (by omega) (by omega) (by simp)
    refine ⟨nI (n + 20), h5, i5, ?_, ?_, S, by rw [bC.1]; exact p1, by rw [bR.1]; exact p2, ?_, H.2.2.2.2.1.keep o1 (by simp), H.2.2.2.2.2.1.keep o1 o2 rfl rfl, ⟨⟨n + 20, c, by rw [F]; exact ud_s _ _ _⟩, ?_, ?_⟩, H.2.2.2.2.2.2.2.1.keep S o1 rfl (by omega) rfl d5.1 d6.2.2.1, H.2.2.2.2.2.2.2.2.1.keep S o1 rfl rfl d5.1 d6.2.2.1 (by rw [F, ud_n (by decide)]), H.2.2.2.2.2.2.2.2.2.1.keep o1 o2 rfl rfl (by rw [F, ud_n (by decide)]) (by rw [F, ud_n (by decide)]), H.2.2.2.2.2.2.2.2.2.2.same fun m hm => (o1.at m (by omega) (by simp; omega)).1⟩
    · show pX12_feed g hc B a0 a1 a2 a3 a4 = _
      unfold pX12_feed
      rw [w_tg (st_0 S), tn, if_pos (cmp.mpr c), e1, w_bd, e2, w_bd, e3, w_bd, e4, w_bd, e5, w_bd, F, ud_s]
    · show pX13_feed g hr (B + 187) a0 a1 a2 a3 a4 = _
      unfold pX13_feed
      rw [w_tg (st_187 S), w_lt, tn', if_pos (cmp.mpr c), u1, w_bd, u2, w_bd, u3, w_bd, u4, w_bd, u5, w_bd, V, ud_s]
    · unfold ObjR
      rw [F, V, (o1.at 130 (by omega) (by simp)).1, (o1.at 130 (by omega) (by simp)).2.1, (o1.at 11 (by omega) (by simp)).1, show hL i5 = hL hr from y5.trans (y4.trans (y3.trans (y2.trans y1)))]
      exact ⟨q1, rfl, q3, q4, q5, q6, q7, q8, q9⟩
    · have e191 : hI (sI hr (B + 187) 1 0) (B + 191) = hI hr (B + 191) := by rw [hI_sI, if_neg (by omega)]
      rw [g5, g4, g3, g2, g1, w5, w4, w3, w2, w1, e191, te]
    · rw [g5, g4, g3, g2, g1]
      exact by4_byte (by4_byte (by4_byte (by4_byte (by4_byte tb'))))
  · refine ⟨-1, hc, sI hr (B + 187) 1 0, ?_, ?_, H.thr 0⟩
    · show pX12_feed g hc B a0 a1 a2 a3 a4 = _
      unfold pX12_feed
      rw [w_tg (st_0 S), tn, if_neg (fun z => c (cmp.mp z))]
    · show pX13_feed g hr (B + 187) a0 a1 a2 a3 a4 = _
      unfold pX13_feed
      rw [w_tg (st_187 S), w_lt, tn', if_neg (fun z => c (cmp.mp z))]
end FEED
