/-! many, rule, drop, ran, time -/
section C2
variable {B : Nat} {E : EC} {op : Nat → Nat} {g : MT} {hc hr : CT}
theorem mac_f (H : MacR B op g hc 13 hr 0) : hI hc (B + 13) 5 = hI hr (B + 192) 0 ∧ hI hc (B + 13) 6 = hI hr (B + 192) 1 ∧ hI hc (B + 13) 7 = hI hr (B + 192) 2 ∧ hI hc (B + 13) 4 = hI hr (B + 192) 3 := by
  obtain ⟨⟨⟨a0, -, a1, a2⟩, ⟨b0, -, -, b1, b2⟩, ⟨c0, -, -, c1, c2⟩, ⟨d0, -, d1, d2⟩, -⟩, -⟩ := H
  exact ⟨a1.trans a2.symm, b1.trans b2.symm, c1.trans c2.symm, d1.trans d2.symm⟩
theorem mac_th (H : MacR B op g hc 13 hr 0) : (∀ r, r < 6 → is01 (hI hc (B + 33) r)) ∧ hI hr (B + 192) 4 = rset (hI hc (B + 33)) := ⟨H.1.2.2.2.2.1, H.1.2.2.2.2.2.1⟩
theorem isIn_l (x : Int32) (n : Nat) (hn : n < 2 ^ 31) : pX13_isIn x.toInt64 0 (lN n) = pX12_within x 0 (nI n) := by
  rw [← isIn_w, nI_l hn]; rfl
theorem no_w {x : Int32} {n : Nat} (e : pX12_within x 0 (nI n) = 0) {j : Nat} (hj : j ≤ n) (hn : n < 2 ^ 31) : ¬ x = nI j := fun z => by
  rw [z] at e
  unfold pX12_within at e
  rw [if_neg (nI_pos (by omega)), if_neg (nI_nlt hj hn)] at e
  cases e
theorem rows_there_l {q : Nat} (M1 : gT g q = 3) (M2 : hR hc q 1 = some (q + 20)) (M3 : gT g (q + 20) = 24) (M4 : gL g (q + 20) = 6) (hb : ∀ r, r < 6 → is01 (hI hc (q + 20) r)) : pX3_rowsThere g hc q = some (rset (hI hc (q + 20))) := by
  have sh : ∀ r : Nat, r < 6 → ((1 : Int32) <<< (nI r &&& 31)) = nI (2 ^ r) := by decide +kernel
  have step : ∀ (f : Nat) (r : Nat) (s : Int32), r < 6 → pX3_rowsThere_l4 g hc q (f + 1) s (nI r) = pX3_rowsThere_l4 g hc q f (s ||| if hI hc (q + 20) r = 0 then 0 else nI (2 ^ r)) (nI (r + 1)) := by
    intro f r s hr
    rw [pX3_rowsThere_l4, pX3_rowsThere_b4, if_neg (show ¬ 6 ≤ nI r from nI_ge (b := 6) hr (by decide))]
    simp only [w_lt, M2, w_nn, w_tg M3, M4, w_ix hr (show (6 : Nat) < 2 ^ 31 by decide), nI_clamp (show r < 2 ^ 31 by omega), pX3_rowsThere_b27, nI_1, sh r hr]
    split <;> rfl
  unfold pX3_rowsThere
  rw [w_tg M1]
  have e0 : FUEL = 4993 + 1 + 1 + 1 + 1 + 1 + 1 + 1 := rfl
  rw [e0, show (0 : Int32) = nI 0 from rfl]
  have st0 := step (4993 + 1 + 1 + 1 + 1 + 1 + 1) 0 (nI 0) (by omega)
  rw [st0, step _ 1 _ (by omega), step _ 2 _ (by omega), step _ 3 _ (by omega), step _ 4 _ (by omega), step _ 5 _ (by omega), pX3_rowsThere_l4, pX3_rowsThere_b4, if_pos (show 6 ≤ nI (5 + 1) from nI_le (a := 6) (by omega) (by decide))]
  unfold rset
  have z : nI 0 = 0 := rfl
  rw [z, Int32.zero_or]
  rfl
theorem C_many : K_many B E op := by
  intro a g hc hr H
  have S := H.1
  have p1 := H.2.1
  have p2 := H.2.2.1
  have hm : MacR B op g hc 13 hr 0 := H.2.2.2.2.2.2.2.1
  obtain ⟨f0, f1, f2, f3⟩ := mac_f hm
  have i5 := isIn_l a 5 (by decide)
  rw [show (lN 5 : Int64) = 5 from rfl] at i5
  rcases within_0 a 5 (by decide) with ⟨e, -⟩ | ⟨e, j, hj, rfl⟩
  · have n0 : ¬ a = 0 := no_w e (j := 0) (by omega) (by decide)
    have n1 : ¬ a = 1 := no_w e (j := 1) (by omega) (by decide)
    have n2 : ¬ a = 2 := no_w e (j := 2) (by omega) (by decide)
    have n3 : ¬ a = 3 := no_w e (j := 3) (by omega) (by decide)
    have n4 : ¬ a = 4 := no_w e (j := 4) (by omega) (by decide)
    have n5 : ¬ a = 5 := no_w e (j := 5) (by omega) (by decide)
    exact ⟨_, _, _, by simp only [pX12_many, w_tg (st_0 S), if_neg n0, if_neg n1, if_neg n2, if_neg n3, if_neg n4, if_neg n5, k_refuse S, w_bd2]; rfl, by simp only [pX13_many, w_tg (st_187 S), w_lt, i5, if_pos e, m_refuse S, w_bd2, sI_sI], H.stat 5 0⟩
  · have r19 : ∀ (v t : Int32), hR (sI (sI hr (B + 187) 1 v) (B + 187) 0 t) = hR hr := fun _ _ => rfl
    have c192 : ∀ (v t : Int32), hI (sI (sI hr (B + 187) 1 v) (B + 187) 0 t) (B + 192) = hI hr (B + 192) := fun v t => by rw [hI_sI, if_neg (by omega), hI_sI, if_neg (by omega)]
    have hj6 : j = 0 ∨ j = 1 ∨ j = 2 ∨ j = 3 ∨ j = 4 ∨ j = 5 := by omega
    rcases hj6 with rfl | rfl | rfl | rfl | rfl | rfl
    · refine ⟨hI hc (B + 13) 5, _, _, by simp only [pX12_many, w_tg (st_0 S), if_pos (show nI 0 = 0 by decide), w_lt, pc_0_4 p1, w_nn, w_tg (st_13 S), k_answer S, w_bd2], ?_, H.stat 0 0⟩
      simp only [pX13_many, w_tg (st_187 S), w_lt, if_neg (show ¬ pX13_isIn (Int32.toInt64 (nI 0)) 0 5 = 0 by decide), if_neg (show ¬ 4 ≤ nI 0 by decide), r19, pr_187_19 p2, w_nn, w_tg (st_192 S), sl_192 S, c192, f0]
      rw [w_ix (show 0 < 1476 by decide) (by decide), nI_clamp (show 0 < 2 ^ 31 by decide)]
    · refine ⟨hI hc (B + 13) 6, _, _, by simp only [pX12_many, w_tg (st_0 S), if_neg (show ¬ nI 1 = 0 by decide), if_pos (show nI 1 = 1 by decide), w_lt, pc_0_4 p1, w_nn, w_tg (st_13 S), k_answer S, w_bd2], ?_, H.stat 0 0⟩
      simp only [pX13_many, w_tg (st_187 S), w_lt, if_neg (show ¬ pX13_isIn (Int32.toInt64 (nI 1)) 0 5 = 0 by decide), if_neg (show ¬ 4 ≤ nI 1 by decide), r19, pr_187_19 p2, w_nn, w_tg (st_192 S), sl_192 S, c192, f1]
      rw [w_ix (show 1 < 1476 by decide) (by decide), nI_clamp (show 1 < 2 ^ 31 by decide)]
    · refine ⟨hI hc (B + 13) 7, _, _, by simp only [pX12_many, w_tg (st_0 S), if_neg (show ¬ nI 2 = 0 by decide), if_neg (show ¬ nI 2 = 1 by decide), if_pos (show nI 2 = 2 by decide), w_lt, pc_0_4 p1, w_nn, w_tg (st_13 S), k_answer S, w_bd2], ?_, H.stat 0 0⟩
      simp only [pX13_many, w_tg (st_187 S), w_lt, if_neg (show ¬ pX13_isIn (Int32.toInt64 (nI 2)) 0 5 = 0 by decide), if_neg (show ¬ 4 ≤ nI 2 by decide), r19, pr_187_19 p2, w_nn, w_tg (st_192 S), sl_192 S, c192, f2]
      rw [w_ix (show 2 < 1476 by decide) (by decide), nI_clamp (show 2 < 2 ^ 31 by decide)]
    · refine ⟨hI hc (B + 13) 4, _, _, by simp only [pX12_many, w_tg (st_0 S), if_neg (show ¬ nI 3 = 0 by decide), if_neg (show ¬ nI 3 = 1 by decide), if_neg (show ¬ nI 3 = 2 by decide), if_pos (show nI 3 = 3 by decide), w_lt, pc_0_4 p1, w_nn, w_tg (st_13 S), k_answer S, w_bd2], ?_, H.stat 0 0⟩
      simp only [pX13_many, w_tg (st_187 S), w_lt, if_neg (show ¬ pX13_isIn (Int32.toInt64 (nI 3)) 0 5 = 0 by decide), if_neg (show ¬ 4 ≤ nI 3 by decide), r19, pr_187_19 p2, w_nn, w_tg (st_192 S), sl_192 S, c192, f3]
      rw [w_ix (show 3 < 1476 by decide) (by decide), nI_clamp (show 3 < 2 ^ 31 by decide)]
    · obtain ⟨-, p, π, m1, -, m2, m3, m4⟩ := hm
      refine ⟨nI π.1, _, _, by simp only [pX12_many, w_tg (st_0 S), if_neg (show ¬ nI 4 = 0 by decide), if_neg (show ¬ nI 4 = 1 by decide), if_neg (show ¬ nI 4 = 2 by decide), if_neg (show ¬ nI 4 = 3 by decide), if_pos (show nI 4 = 4 by decide), w_lt, pc_0_4 p1, w_nn, w_tg (st_13 S), m1, w_tg m3.1, k_answer S, w_bd2, m3.2.2.2.2.1], ?_, H.stat 0 0⟩
      simp only [pX13_many, w_tg (st_187 S), w_lt, if_neg (show ¬ pX13_isIn (Int32.toInt64 (nI 4)) 0 5 = 0 by decide), if_pos (show 4 ≤ nI 4 by decide), if_pos (show nI 4 = 4 by decide), r19, pr_187_19 p2, w_nn, w_tg (st_192 S), sl_192 S, c192]
      rw [w_ixl (by decide) (by decide), cl_l 5 (by decide), show hI hr (B + 192) 5 = nI π.1 from m4.1]
    · obtain ⟨t1, t2⟩ := mac_th hm
      have rt := rows_there_l (q := B + 13) (st_13 S) (pc_13_1 p1) (st_33 S) (sl_33 S) t1
      refine ⟨rset (hI hc (B + 13 + 20)), _, _, by simp only [pX12_many, w_tg (st_0 S), if_neg (show ¬ nI 5 = 0 by decide), if_neg (show ¬ nI 5 = 1 by decide), if_neg (show ¬ nI 5 = 2 by decide), if_neg (show ¬ nI 5 = 3 by decide), if_neg (show ¬ nI 5 = 4 by decide), if_pos (show nI 5 = 5 by decide), w_lt, pc_0_4 p1, w_nn, w_tg (st_13 S), rt, w_bd, k_answer S, w_bd2], ?_, H.stat 0 0⟩
      simp only [pX13_many, w_tg (st_187 S), w_lt, if_neg (show ¬ pX13_isIn (Int32.toInt64 (nI 5)) 0 5 = 0 by decide), if_pos (show 4 ≤ nI 5 by decide), if_neg (show ¬ nI 5 = 4 by decide), r19, pr_187_19 p2, w_nn, w_tg (st_192 S), sl_192 S, c192]
      rw [w_ixl (by decide) (by decide), cl_l 4 (by decide), t2]
end C2
