/-! rule, drop, ran, time -/
def rsL (l : List Bool) : Int32 := (if l.getD 0 true then 0 else 1) ||| (if l.getD 1 true then 0 else 2) ||| (if l.getD 2 true then 0 else 4) ||| (if l.getD 3 true then 0 else 8) ||| (if l.getD 4 true then 0 else 16) ||| (if l.getD 5 true then 0 else 32)
def bls (f : Nat → Int32) : List Bool := [decide (f 0 = 0), decide (f 1 = 0), decide (f 2 = 0), decide (f 3 = 0), decide (f 4 = 0), decide (f 5 = 0)]
theorem rset_L (f : Nat → Int32) : rset f = rsL (bls f) := by simp [rset, rsL, bls]
theorem bls_ud (f : Nat → Int32) (x : Int32) : ∀ r, r < 6 → bls (ud f r x) = (bls f).set r (decide (x = 0)) := by
  intro r hr
  have : r = 0 ∨ r = 1 ∨ r = 2 ∨ r = 3 ∨ r = 4 ∨ r = 5 := by omega
  rcases this with rfl | rfl | rfl | rfl | rfl | rfl <;> simp [bls, ud]
theorem rsL_bit : ∀ b0 b1 b2 b3 b4 b5 : Bool, ∀ r, r < 6 → rsL ([b0, b1, b2, b3, b4, b5].set r true) = rsL ([b0, b1, b2, b3, b4, b5].set r false) ^^^ ((1 : Int32) <<< (nI r &&& 31)) ∧ rsL ([b0, b1, b2, b3, b4, b5].set r false) = rsL [b0, b1, b2, b3, b4, b5] ||| ((1 : Int32) <<< (nI r &&& 31)) := by decide +kernel
theorem bls_at (f : Nat → Int32) {r : Nat} (hr : r < 6) : (bls f).set r (decide (f r = 0)) = bls f := by
  have : r = 0 ∨ r = 1 ∨ r = 2 ∨ r = 3 ∨ r = 4 ∨ r = 5 := by omega
  rcases this with rfl | rfl | rfl | rfl | rfl | rfl <;> simp [bls]
theorem rset_drop {f : Nat → Int32} {r : Nat} (hr : r < 6) (hf : ¬ f r = 0) : rset (ud f r 0) = rset f ^^^ ((1 : Int32) <<< (nI r &&& 31)) := by
  have h := bls_at f hr
  rw [rset_L, rset_L, bls_ud f 0 r hr, ← h, List.set_set]
  rw [show decide (f r = 0) = false from decide_eq_false hf, show decide ((0 : Int32) = 0) = true from rfl]
  exact (rsL_bit _ _ _ _ _ _ r hr).1
theorem rset_land {f : Nat → Int32} {r : Nat} (hr : r < 6) : rset (ud f r 1) = rset f ||| ((1 : Int32) <<< (nI r &&& 31)) := by
  rw [rset_L, rset_L, bls_ud f 1 r hr, show decide ((1 : Int32) = 0) = false from rfl]
  exact (rsL_bit _ _ _ _ _ _ r hr).2
theorem within_g (x : Int32) (l n : Nat) (hn : n < 2 ^ 31) (hl : l ≤ n) : pX12_within x (nI l) (nI n) = 0 ∨ (pX12_within x (nI l) (nI n) = 1 ∧ ∃ j, l ≤ j ∧ j ≤ n ∧ x = nI j) := by
  unfold pX12_within
  by_cases c1 : x < nI l
  · rw [if_pos c1]; exact Or.inl rfl
  · rw [if_neg c1]
    by_cases c2 : nI n < x
    · rw [if_pos c2]; exact Or.inl rfl
    · rw [if_neg c2]
      have c0 : ¬ x < 0 := fun z => c1 (by
        rw [Int32.lt_iff_toInt_lt] at z ⊢
        rw [nI_toInt (by omega)]
        have : (0 : Int32).toInt = 0 := rfl
        omega)
      obtain ⟨j, hj, e⟩ := nI_of c0
      subst e
      exact Or.inr ⟨rfl, j, Nat.not_lt.mp fun z => c1 (nI_lt z (by omega)), Nat.not_lt.mp fun z => c2 (nI_lt z hj), rfl⟩
section C4
variable {B : Nat} {E : EC} {op : Nat → Nat} {g : MT} {hc hr hc' hr' : CT}
theorem C_rule : K_rule B E op := by
  intro a b g hc hr H
  have S := H.1
  have p1 := H.2.1
  have p2 := H.2.2.1
  have hm : MacR B op g hc 13 hr 0 := H.2.2.2.2.2.2.2.1
  obtain ⟨⟨n5, v1, v2, v3⟩, ⟨n6, w1, w2, w3, w4⟩, ⟨n7, x1, x2, x3, x4⟩, ⟨n4, y1, y2, y3⟩, th, ts, rw', sc, me⟩ := hm.1
  have i3 := isIn_l a 3 (by decide)
  rw [show (lN 3 : Int64) = 3 from rfl] at i3
  have e192 : hI (sI (sI hr (B + 187) 1 0) (B + 187) 0 0) (B + 192) = hI hr (B + 192) := by rw [hI_sI, if_neg (by omega), hI_sI, if_neg (by omega)]
  have bad1 : pX12_rule_b104 g B a b hc = some (0, sI hc B 19 5) := by unfold pX12_rule_b104; rw [k_deny S]; rfl
  have bad2 : pX13_rule_b40 g (B + 187) a b (sI (sI hr (B + 187) 1 0) (B + 187) 0 0) = some (0, sI (sI hr (B + 187) 1 0) (B + 187) 0 5) := by unfold pX13_rule_b40; rw [m_no S, sI_sI]; rfl
  have fin : ∀ h, pX12_rule_b110 g B a b h = some (1, sI h B 19 0) := fun h => by unfold pX12_rule_b110; rw [k_agree S]; rfl
  rcases within_0 a 3 (by decide) with ⟨e, -⟩ | ⟨e, j, hj, rfl⟩
  · have n0 : ¬ a = 0 := no_w e (j := 0) (by omega) (by decide)
    have n1 : ¬ a = 1 := no_w e (j := 1) (by omega) (by decide)
    have n2 : ¬ a = 2 := no_w e (j := 2) (by omega) (by decide)
    have n3 : ¬ a = 3 := no_w e (j := 3) (by omega) (by decide)
    exact ⟨0, _, _, by simp only [pX12_rule, pX12_rule_b25, pX12_rule_b51, pX12_rule_b77, w_tg (st_0 S), if_neg n0, if_neg n1, if_neg n2, if_neg n3, bad1], by simp only [pX13_rule, w_tg (st_187 S), w_lt, i3, if_pos e, bad2], H.stat 5 0⟩
  · have hj4 : j = 0 ∨ j = 1 ∨ j = 2 ∨ j = 3 := by omega
    rcases hj4 with rfl | rfl | rfl | rfl
    · have iw : pX13_isIn (Int32.toInt64 b) (Int32.toInt64 (pX13_leastOf (nI 0))) (Int32.toInt64 (pX13_greatestOf (nI 0))) = pX12_within b 0 16 := by rw [isIn_w]; rfl
      rcases within_g b 0 16 (by decide) (by decide) with q | ⟨q, n, l1, l2, rfl⟩
      · have q : pX12_within b 0 16 = 0 := q
        exact ⟨0, _, _, by simp only [pX12_rule, pX12_rule_b25, pX12_rule_b51, pX12_rule_b77, w_tg (st_0 S), if_neg (show ¬ nI 0 = 1 by decide), if_neg (show ¬ nI 0 = 2 by decide), if_neg (show ¬ nI 0 = 3 by decide), if_pos (show nI 0 = 0 by decide), if_pos q, bad1], by simp only [pX13_rule, w_tg (st_187 S), w_lt, if_neg (show ¬ pX13_isIn (Int32.toInt64 (nI 0)) 0 3 = 0 by decide), iw, if_pos q, bad2], H.stat 5 0⟩
      · have q : pX12_within (nI n) 0 16 = 1 := q
        have q0 : ¬ pX12_within (nI n) 0 16 = 0 := by rw [q]; decide
        refine ⟨1, sI (sI hc (B + 13) 5 (nI n)) B 19 0, sI (sI (sI hr (B + 187) 1 0) (B + 187) 0 0) (B + 192) 0 (nI n), ?_, ?_, H.mac0 (fun x z1 z2 => (Eqa.rf hc x).sI z1) (fun x z1 => (Eqa.rf _ x).sI z1) rfl rfl (fun i hi => by rw [hI_sI, if_pos rfl, ud_n (by omega), e192]) ?_⟩
        · simp only [pX12_rule, pX12_rule_b25, pX12_rule_b51, pX12_rule_b77, w_tg (st_0 S), if_neg (show ¬ nI 0 = 1 by decide), if_neg (show ¬ nI 0 = 2 by decide), if_neg (show ¬ nI 0 = 3 by decide), if_pos (show nI 0 = 0 by decide), if_neg q0, w_lt, pc_0_4 p1, w_nn, w_tg (st_13 S), fin]
        · simp only [pX13_rule, w_tg (st_187 S), w_lt, if_neg (show ¬ pX13_isIn (Int32.toInt64 (nI 0)) 0 3 = 0 by decide), iw, if_neg q0]
          rw [show hR (sI (sI hr (B + 187) 1 0) (B + 187) 0 0) (B + 187) 19 = some (B + 192) from pr_187_19 p2, w_nn, w_tg (st_192 S), sl_192 S, w_ix (show 0 < 1476 by decide) (by decide), nI_clamp (show 0 < 2 ^ 31 by decide)]
        · have s33 : hI (sI hc (B + 13) 5 (nI n)) (B + 13 + 20) = hI hc (B + 13 + 20) := by rw [hI_sI, if_neg (by omega)]
          have t4 : hI (sI (sI (sI hr (B + 187) 1 0) (B + 187) 0 0) (B + 192) 0 (nI n)) (B + 192) 4 = hI hr (B + 192) 4 := by rw [hI_sI, if_pos rfl, ud_n (by decide), e192]
          refine ⟨?_, ?_, ?_, ?_, by rw [s33]; exact th, by rw [s33]; exact t4.trans ts, fun r hr => ?_, ?_, ?_⟩
          · exact ⟨n, by omega, by rw [hI_sI, if_pos rfl, ud_s], by rw [hI_sI, if_pos rfl]; exact ud_s _ _ _⟩
          · exact ⟨n6, w1, w2, by rw [hI_sI, if_pos rfl, ud_n (by decide)]; exact w3, by rw [hI_sI, if_pos rfl, ud_n (by decide), e192]; exact w4⟩
          · exact ⟨n7, x1, x2, by rw [hI_sI, if_pos rfl, ud_n (by decide)]; exact x3, by rw [hI_sI, if_pos rfl, ud_n (by decide), e192]; exact x4⟩
          · exact ⟨n4, y1, by rw [hI_sI, if_pos rfl, ud_n (by decide)]; exact y2, by rw [hI_sI, if_pos rfl, ud_n (by decide), e192]; exact y3⟩
          · rw [hI_sI, if_neg (by omega)]; exact rw' r hr
          · rw [hI_sI, if_neg (by omega)]; exact sc
          · rw [hI_sI, if_neg (by omega)]; exact me
    · have iw : pX13_isIn (Int32.toInt64 b) (Int32.toInt64 (pX13_leastOf (nI 1))) (Int32.toInt64 (pX13_greatestOf (nI 1))) = pX12_within b 1 16 := by rw [isIn_w]; rfl
      rcases within_g b 1 16 (by decide) (by decide) with q | ⟨q, n, l1, l2, rfl⟩
      · have q : pX12_within b 1 16 = 0 := q
        exact ⟨0, _, _, by simp only [pX12_rule, pX12_rule_b25, pX12_rule_b51, pX12_rule_b77, w_tg (st_0 S), if_neg (show ¬ nI 1 = 0 by decide), if_neg (show ¬ nI 1 = 2 by decide), if_neg (show ¬ nI 1 = 3 by decide), if_pos (show nI 1 = 1 by decide), if_pos q, bad1], by simp only [pX13_rule, w_tg (st_187 S), w_lt, if_neg (show ¬ pX13_isIn (Int32.toInt64 (nI 1)) 0 3 = 0 by decide), iw, if_pos q, bad2], H.stat 5 0⟩
      · have q : pX12_within (nI n) 1 16 = 1 := q
        have q0 : ¬ pX12_within (nI n) 1 16 = 0 := by rw [q]; decide
        refine ⟨1, sI (sI hc (B + 13) 6 (nI n)) B 19 0, sI (sI (sI hr (B + 187) 1 0) (B + 187) 0 0) (B + 192) 1 (nI n), ?_, ?_, H.mac0 (fun x z1 z2 => (Eqa.rf hc x).sI z1) (fun x z1 => (Eqa.rf _ x).sI z1) rfl rfl (fun i hi => by rw [hI_sI, if_pos rfl, ud_n (by omega), e192]) ?_⟩
        · simp only [pX12_rule, pX12_rule_b25, pX12_rule_b51, pX12_rule_b77, w_tg (st_0 S), if_neg (show ¬ nI 1 = 0 by decide), if_neg (show ¬ nI 1 = 2 by decide), if_neg (show ¬ nI 1 = 3 by decide), if_pos (show nI 1 = 1 by decide), if_neg q0, w_lt, pc_0_4 p1, w_nn, w_tg (st_13 S), fin]
        · simp only [pX13_rule, w_tg (st_187 S), w_lt, if_neg (show ¬ pX13_isIn (Int32.toInt64 (nI 1)) 0 3 = 0 by decide), iw, if_neg q0]
          rw [show hR (sI (sI hr (B + 187) 1 0) (B + 187) 0 0) (B + 187) 19 = some (B + 192) from pr_187_19 p2, w_nn, w_tg (st_192 S), sl_192 S, w_ix (show 1 < 1476 by decide) (by decide), nI_clamp (show 1 < 2 ^ 31 by decide)]
        · have s33 : hI (sI hc (B + 13) 6 (nI n)) (B + 13 + 20) = hI hc (B + 13 + 20) := by rw [hI_sI, if_neg (by omega)]
          have t4 : hI (sI (sI (sI hr (B + 187) 1 0) (B + 187) 0 0) (B + 192) 1 (nI n)) (B + 192) 4 = hI hr (B + 192) 4 := by rw [hI_sI, if_pos rfl, ud_n (by decide), e192]
          refine ⟨?_, ?_, ?_, ?_, by rw [s33]; exact th, by rw [s33]; exact t4.trans ts, fun r hr => ?_, ?_, ?_⟩
          · exact ⟨n5, v1, by rw [hI_sI, if_pos rfl, ud_n (by decide)]; exact v2, by rw [hI_sI, if_pos rfl, ud_n (by decide), e192]; exact v3⟩
          · exact ⟨n, by omega, by omega, by rw [hI_sI, if_pos rfl, ud_s], by rw [hI_sI, if_pos rfl]; exact ud_s _ _ _⟩
          · exact ⟨n7, x1, x2, by rw [hI_sI, if_pos rfl, ud_n (by decide)]; exact x3, by rw [hI_sI, if_pos rfl, ud_n (by decide), e192]; exact x4⟩
          · exact ⟨n4, y1, by rw [hI_sI, if_pos rfl, ud_n (by decide)]; exact y2, by rw [hI_sI, if_pos rfl, ud_n (by decide), e192]; exact y3⟩
          · rw [hI_sI, if_neg (by omega)]; exact rw' r hr
          · rw [hI_sI, if_neg (by omega)]; exact sc
          · rw [hI_sI, if_neg (by omega)]; exact me
    · have iw : pX13_isIn (Int32.toInt64 b) (Int32.toInt64 (pX13_leastOf (nI 2))) (Int32.toInt64 (pX13_greatestOf (nI 2))) = pX12_within b 1 12 := by rw [isIn_w]; rfl
      rcases within_g b 1 12 (by decide) (by decide) with q | ⟨q, n, l1, l2, rfl⟩
      · have q : pX12_within b 1 12 = 0 := q
        exact ⟨0, _, _, by simp only [pX12_rule, pX12_rule_b25, pX12_rule_b51, pX12_rule_b77, w_tg (st_0 S), if_neg (show ¬ nI 2 = 0 by decide), if_neg (show ¬ nI 2 = 1 by decide), if_neg (show ¬ nI 2 = 3 by decide), if_pos (show nI 2 = 2 by decide), if_pos q, bad1], by simp only [pX13_rule, w_tg (st_187 S), w_lt, if_neg (show ¬ pX13_isIn (Int32.toInt64 (nI 2)) 0 3 = 0 by decide), iw, if_pos q, bad2], H.stat 5 0⟩
      · have q : pX12_within (nI n) 1 12 = 1 := q
        have q0 : ¬ pX12_within (nI n) 1 12 = 0 := by rw [q]; decide
        refine ⟨1, sI (sI hc (B + 13) 7 (nI n)) B 19 0, sI (sI (sI hr (B + 187) 1 0) (B + 187) 0 0) (B + 192) 2 (nI n), ?_, ?_, H.mac0 (fun x z1 z2 => (Eqa.rf hc x).sI z1) (fun x z1 => (Eqa.rf _ x).sI z1) rfl rfl (fun i hi => by rw [hI_sI, if_pos rfl, ud_n (by omega), e192]) ?_⟩
        · simp only [pX12_rule, pX12_rule_b25, pX12_rule_b51, pX12_rule_b77, w_tg (st_0 S), if_neg (show ¬ nI 2 = 0 by decide), if_neg (show ¬ nI 2 = 1 by decide), if_neg (show ¬ nI 2 = 3 by decide), if_pos (show nI 2 = 2 by decide), if_neg q0, w_lt, pc_0_4 p1, w_nn, w_tg (st_13 S), fin]
        · simp only [pX13_rule, w_tg (st_187 S), w_lt, if_neg (show ¬ pX13_isIn (Int32.toInt64 (nI 2)) 0 3 = 0 by decide), iw, if_neg q0]
          rw [show hR (sI (sI hr (B + 187) 1 0) (B + 187) 0 0) (B + 187) 19 = some (B + 192) from pr_187_19 p2, w_nn, w_tg (st_192 S), sl_192 S, w_ix (show 2 < 1476 by decide) (by decide), nI_clamp (show 2 < 2 ^ 31 by decide)]
        · have s33 : hI (sI hc (B + 13) 7 (nI n)) (B + 13 + 20) = hI hc (B + 13 + 20) := by rw [hI_sI, if_neg (by omega)]
          have t4 : hI (sI (sI (sI hr (B + 187) 1 0) (B + 187) 0 0) (B + 192) 2 (nI n)) (B + 192) 4 = hI hr (B + 192) 4 := by rw [hI_sI, if_pos rfl, ud_n (by decide), e192]
          refine ⟨?_, ?_, ?_, ?_, by rw [s33]; exact th, by rw [s33]; exact t4.trans ts, fun r hr => ?_, ?_, ?_⟩
          · exact ⟨n5, v1, by rw [hI_sI, if_pos rfl, ud_n (by decide)]; exact v2, by rw [hI_sI, if_pos rfl, ud_n (by decide), e192]; exact v3⟩
          · exact ⟨n6, w1, w2, by rw [hI_sI, if_pos rfl, ud_n (by decide)]; exact w3, by rw [hI_sI, if_pos rfl, ud_n (by decide), e192]; exact w4⟩
          · exact ⟨n, by omega, by omega, by rw [hI_sI, if_pos rfl, ud_s], by rw [hI_sI, if_pos rfl]; exact ud_s _ _ _⟩
          · exact ⟨n4, y1, by rw [hI_sI, if_pos rfl, ud_n (by decide)]; exact y2, by rw [hI_sI, if_pos rfl, ud_n (by decide), e192]; exact y3⟩
          · rw [hI_sI, if_neg (by omega)]; exact rw' r hr
          · rw [hI_sI, if_neg (by omega)]; exact sc
          · rw [hI_sI, if_neg (by omega)]; exact me
    · have iw : pX13_isIn (Int32.toInt64 b) (Int32.toInt64 (pX13_leastOf (nI 3))) (Int32.toInt64 (pX13_greatestOf (nI 3))) = pX12_within b 0 65535 := by rw [isIn_w]; rfl
      rcases within_g b 0 65535 (by decide) (by decide) with q | ⟨q, n, l1, l2, rfl⟩
      · have q : pX12_within b 0 65535 = 0 := q
        exact ⟨0, _, _, by simp only [pX12_rule, pX12_rule_b25, pX12_rule_b51, pX12_rule_b77, w_tg (st_0 S), if_neg (show ¬ nI 3 = 0 by decide), if_neg (show ¬ nI 3 = 1 by decide), if_neg (show ¬ nI 3 = 2 by decide), if_pos (show nI 3 = 3 by decide), if_pos q, bad1], by simp only [pX13_rule, w_tg (st_187 S), w_lt, if_neg (show ¬ pX13_isIn (Int32.toInt64 (nI 3)) 0 3 = 0 by decide), iw, if_pos q, bad2], H.stat 5 0⟩
      · have q : pX12_within (nI n) 0 65535 = 1 := q
        have q0 : ¬ pX12_within (nI n) 0 65535 = 0 := by rw [q]; decide
        refine ⟨1, sI (sI hc (B + 13) 4 (nI n)) B 19 0, sI (sI (sI hr (B + 187) 1 0) (B + 187) 0 0) (B + 192) 3 (nI n), ?_, ?_, H.mac0 (fun x z1 z2 => (Eqa.rf hc x).sI z1) (fun x z1 => (Eqa.rf _ x).sI z1) rfl rfl (fun i hi => by rw [hI_sI, if_pos rfl, ud_n (by omega), e192]) ?_⟩
        · simp only [pX12_rule, pX12_rule_b25, pX12_rule_b51, pX12_rule_b77, w_tg (st_0 S), if_neg (show ¬ nI 3 = 0 by decide), if_neg (show ¬ nI 3 = 1 by decide), if_neg (show ¬ nI 3 = 2 by decide), if_pos (show nI 3 = 3 by decide), if_neg q0, w_lt, pc_0_4 p1, w_nn, w_tg (st_13 S), fin]
        · simp only [pX13_rule, w_tg (st_187 S), w_lt, if_neg (show ¬ pX13_isIn (Int32.toInt64 (nI 3)) 0 3 = 0 by decide), iw, if_neg q0]
          rw [show hR (sI (sI hr (B + 187) 1 0) (B + 187) 0 0) (B + 187) 19 = some (B + 192) from pr_187_19 p2, w_nn, w_tg (st_192 S), sl_192 S, w_ix (show 3 < 1476 by decide) (by decide), nI_clamp (show 3 < 2 ^ 31 by decide)]
        · have s33 : hI (sI hc (B + 13) 4 (nI n)) (B + 13 + 20) = hI hc (B + 13 + 20) := by rw [hI_sI, if_neg (by omega)]
          have t4 : hI (sI (sI (sI hr (B + 187) 1 0) (B + 187) 0 0) (B + 192) 3 (nI n)) (B + 192) 4 = hI hr (B + 192) 4 := by rw [hI_sI, if_pos rfl, ud_n (by decide), e192]
          refine ⟨?_, ?_, ?_, ?_, by rw [s33]; exact th, by rw [s33]; exact t4.trans ts, fun r hr => ?_, ?_, ?_⟩
          · exact ⟨n5, v1, by rw [hI_sI, if_pos rfl, ud_n (by decide)]; exact v2, by rw [hI_sI, if_pos rfl, ud_n (by decide), e192]; exact v3⟩
          · exact ⟨n6, w1, w2, by rw [hI_sI, if_pos rfl, ud_n (by decide)]; exact w3, by rw [hI_sI, if_pos rfl, ud_n (by decide), e192]; exact w4⟩
          · exact ⟨n7, x1, x2, by rw [hI_sI, if_pos rfl, ud_n (by decide)]; exact x3, by rw [hI_sI, if_pos rfl, ud_n (by decide), e192]; exact x4⟩
          · exact ⟨n, by omega, by rw [hI_sI, if_pos rfl, ud_s], by rw [hI_sI, if_pos rfl]; exact ud_s _ _ _⟩
          · rw [hI_sI, if_neg (by omega)]; exact rw' r hr
          · rw [hI_sI, if_neg (by omega)]; exact sc
          · rw [hI_sI, if_neg (by omega)]; exact me
theorem row_trouble (S : Sh B g) (p1 : PtC B (hR hc)) (hm : MacR B op g hc 13 hr 0) (a : Int32) :
    (pX12_within a 0 5 = 0 ∧ pX12_rowTrouble g hc B a = some 2) ∨ ∃ r, r < 6 ∧ a = nI r ∧ ¬ pX12_within a 0 5 = 0 ∧ ((hI hc (B + 33) r = 0 ∧ pX12_rowTrouble g hc B a = some 3) ∨ (hI hc (B + 33) r = 1 ∧ pX12_rowTrouble g hc B a = some 0)) := by
  rcases within_0 a 5 (by decide) with ⟨e, -⟩ | ⟨e, r, hr, rfl⟩
  · have e : pX12_within a 0 5 = 0 := e
    exact Or.inl ⟨e, by simp only [pX12_rowTrouble, w_tg (st_0 S), if_pos e]⟩
  · have e : pX12_within (nI r) 0 5 = 1 := e
    have e0 : ¬ pX12_within (nI r) 0 5 = 0 := by rw [e]; decide
    refine Or.inr ⟨r, by omega, rfl, e0, ?_⟩
    have key : pX12_rowTrouble g hc B (nI r) = if hI hc (B + 33) r = 0 then some 3 else some 0 := by
      simp only [pX12_rowTrouble, w_tg (st_0 S), if_neg e0, w_lt, pc_0_4 p1, w_nn, w_tg (st_13 S), pc_13_1 p1, w_tg (st_33 S), sl_33 S, w_ix (show r < 6 by omega) (show 6 < 2 ^ 31 by decide), nI_clamp (show r < 2 ^ 31 by omega)]
    rw [key]
    rcases (mac_th hm).1 r (by omega) with z | z
    · exact Or.inl ⟨z, if_pos z⟩
    · exact Or.inr ⟨z, if_neg (by rw [z]; decide)⟩
theorem has_there (hm : MacR B op g hc 13 hr 0) {r : Nat} (h : r < 6) : pX13_has (hI hr (B + 192) 4) (nI r) = if hI hc (B + 33) r = 0 then 0 else 1 := by
  rw [(mac_th hm).2]
  exact bits6 _ r h
theorem C_drop : K_drop B E op := by
  intro a g hc hr H
  have S := H.1
  have p1 := H.2.1
  have p2 := H.2.2.1
  have hm : MacR B op g hc 13 hr 0 := H.2.2.2.2.2.2.2.1
  have i5 := isIn_l a 5 (by decide)
  rw [show (lN 5 : Int64) = 5 from rfl] at i5
  have e192 : hI (sI (sI hr (B + 187) 1 0) (B + 187) 0 0) (B + 192) = hI hr (B + 192) := by rw [hI_sI, if_neg (by omega), hI_sI, if_neg (by omega)]
  have r19 : hR (sI (sI hr (B + 187) 1 0) (B + 187) 0 0) (B + 187) 19 = some (B + 192) := pr_187_19 p2
  rcases row_trouble S p1 hm a with ⟨e, t⟩ | ⟨r, hr6, rfl, e, ⟨z, t⟩ | ⟨z, t⟩⟩
  · refine ⟨0, _, _, ?_, ?_, H.stat 2 0⟩
    · simp only [pX12_drop, w_tg (st_0 S), t, w_bd, if_neg (show ¬ (2 : Int32) = 0 by decide), k_deny S, w_bd2, w_bz0]
    · simp only [pX13_drop, w_tg (st_187 S), w_lt, pX13_isRow, i5]
      rw [if_pos (show pX12_within a 0 (nI 5) = 0 from e), m_no S, w_bd2, sI_sI]; rfl
  · refine ⟨0, _, _, ?_, ?_, H.stat 3 0⟩
    · simp only [pX12_drop, w_tg (st_0 S), t, w_bd, if_neg (show ¬ (3 : Int32) = 0 by decide), k_deny S, w_bd2, w_bz0]
    · simp only [pX13_drop, w_tg (st_187 S), w_lt, pX13_isRow, i5]
      rw [if_neg (show ¬ pX12_within (nI r) 0 (nI 5) = 0 from e), r19, w_nn, w_tg (st_192 S), sl_192 S, w_ixl (by decide) (by decide), cl_l 4 (by decide), e192, has_there hm hr6, if_pos z, if_pos rfl, m_no S, w_bd2, sI_sI]; rfl
  · obtain ⟨th, ts⟩ := mac_th hm
    have z0 : ¬ hI hc (B + 33) r = 0 := by rw [z]; decide
    refine ⟨1, sI (sI hc (B + 33) r 0) B 19 0, sI (sI (sI hr (B + 187) 1 0) (B + 187) 0 0) (B + 192) 4 (hI hr (B + 192) 4 ^^^ ((1 : Int32) <<< (nI r &&& 31))), ?_, ?_, H.mac0 (fun x z1 z2 => (Eqa.rf hc x).sI z2) (fun x z1 => (Eqa.rf _ x).sI z1) rfl rfl (fun i hi => by rw [hI_sI, if_pos rfl, ud_n (by omega), e192]) ?_⟩
    · simp only [pX12_drop, w_tg (st_0 S), t, w_bd, if_true, w_lt, pc_0_4 p1, w_nn, w_tg (st_13 S), pc_13_1 p1, w_tg (st_33 S), sl_33 S, w_ix hr6 (show 6 < 2 ^ 31 by decide), nI_clamp (show r < 2 ^ 31 by omega), nar_bool is01_0, k_agree S, w_bd2, w_bz1]
    · simp only [pX13_drop, w_tg (st_187 S), w_lt, pX13_isRow, i5]
      rw [if_neg (show ¬ pX12_within (nI r) 0 (nI 5) = 0 from e), r19, w_nn, w_tg (st_192 S), sl_192 S, w_ixl (by decide) (by decide), cl_l 4 (by decide), e192, has_there hm hr6, if_neg z0, if_neg (by decide), w_nn, w_tg (st_192 S), sl_192 S, w_ixl (by decide) (by decide), w_ixl (by decide) (by decide), e192]
    · obtain ⟨a1, a2, a3, a4, -, -, a7, a8, a9⟩ := hm.1
      have c0 : hI (sI hc (B + 33) r 0) (B + 13) = hI hc (B + 13) := by rw [hI_sI, if_neg (by omega)]
      have q : ∀ i, i ≠ 4 → hI (sI (sI (sI hr (B + 187) 1 0) (B + 187) 0 0) (B + 192) 4 (hI hr (B + 192) 4 ^^^ ((1 : Int32) <<< (nI r &&& 31)))) (B + 192) i = hI hr (B + 192) i := fun i hi => by rw [hI_sI, if_pos rfl, ud_n hi, e192]
      have c33 : hI (sI hc (B + 33) r 0) (B + 13 + 20) = ud (hI hc (B + 33)) r 0 := by rw [hI_sI, if_pos rfl]
      refine ⟨?_, ?_, ?_, ?_, fun k hk => ?_, ?_, fun k hk => ?_, ?_, ?_⟩
      · rw [c0, q _ (by decide)]; exact a1
      · rw [c0, q _ (by decide)]; exact a2
      · rw [c0, q _ (by decide)]; exact a3
      · rw [c0, q _ (by decide)]; exact a4
      · rw [c33]
        by_cases ek : k = r
        · rw [ek, ud_s]; exact is01_0
        · rw [ud_n ek]; exact th k hk
      · rw [c33, rset_drop hr6 z0, ← ts, hI_sI, if_pos rfl]; exact ud_s _ _ _
      · rw [hI_sI, if_neg (by omega)]; exact a7 k hk
      · rw [hI_sI, if_neg (by omega)]; exact a8
      · rw [hI_sI, if_neg (by omega)]; exact a9
end C4
