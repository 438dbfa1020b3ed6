/-! put: a NUMBER lands in a row -/
section PPT
variable {B : Nat} {E : EC} {op : Nat → Nat} {g : MT} {hc hr hc' hr' : CT}
theorem MacD.vrow {q c v r : Nat} {cc cc' : Nat → Int32} {vv vv' : Nat → UInt64} (H : MacD hc q cc vv c v) (hr6 : r < 6) (e : ∀ j, j < 27 → j ≠ 20 → j ≠ 3 + 3 * r → j ≠ 4 + 3 * r → hI hc' (q + j) = hI hc (q + j) ∧ hD hc' (q + j) = hD hc (q + j)) (e20 : ∀ k, k < 6 → is01 (hI hc' (q + 20) k)) (ec : ∀ i, i ≠ c + 4 → cc' i = cc i) (e4 : cc' (c + 4) = rset (hI hc' (q + 20)))
    (nr : RowR 16 (hD hc' (q + 3 + 3 * r)) (hI hc' (q + 4 + 3 * r)) vv' (v + 16 * r)) (ev : ∀ i, (i < v + 16 * r ∨ v + 16 * r + 16 ≤ i) → vv' i = vv i) : MacD hc' q cc' vv' c v := by
  obtain ⟨h1, h2, h3, h4, h5, h6, h7, h8, h9⟩ := H
  have e0 : hI hc' q = hI hc q := (e 0 (by omega) (by omega) (by omega) (by omega)).1
  refine ⟨by rw [e0, ec c (by omega)]; exact h1, by rw [e0, ec _ (by omega)]; exact h2, by rw [e0, ec _ (by omega)]; exact h3, by rw [e0, ec _ (by omega)]; exact h4, e20, e4, fun k hk => ?_, ?_, ?_⟩
  · by_cases z : k = r
    · subst z; exact nr
    · have a1 := (e (3 + 3 * k) (by omega) (by omega) (by omega) (by omega)).2
      have a2 := (e (4 + 3 * k) (by omega) (by omega) (by omega) (by omega)).1
      rw [← Nat.add_assoc] at a1 a2
      rw [a1, a2]
      exact (h7 k hk).to fun j hj => ev _ (by omega)
  · rw [(e 22 (by omega) (by omega) (by omega) (by omega)).2, (e 23 (by omega) (by omega) (by omega) (by omega)).1]
    exact h8.to fun j hj => ev _ (by omega)
  · rw [(e 25 (by omega) (by omega) (by omega) (by omega)).2, (e 26 (by omega) (by omega) (by omega) (by omega)).1]
    exact h9.to fun j hj => ev _ (by omega)
theorem m_there_l (S : Sh B g) (p2 : PtR B (hR hr)) {r : Nat} (hr6 : r < 6) : ∃ h', pX13_there_l28 g (B + 187) (nI r) FUEL 0 hr = some h' ∧ But1 (B + 193) hr h' ∧ hI h' = hI hr ∧ (∀ i, 16 * r ≤ i → i < 16 * r + 16 → hD h' (B + 193) i = 0) ∧ ∀ i, (i < 16 * r ∨ 16 * r + 16 ≤ i) → hD h' (B + 193) i = hD hr (B + 193) i := by
  exact loopN (L := fun f j s => pX13_there_l28 g (B + 187) (nI r) f (nI j) s) (N := 16) (Inv := fun j s => But1 (B + 193) hr s ∧ hI s = hI hr ∧ (∀ i, 16 * r ≤ i → i < 16 * r + j → hD s (B + 193) i = 0) ∧ ∀ i, (i < 16 * r ∨ 16 * r + 16 ≤ i) → hD s (B + 193) i = hD hr (B + 193) i)
    (Post := fun h' => But1 (B + 193) hr h' ∧ hI h' = hI hr ∧ (∀ i, 16 * r ≤ i → i < 16 * r + 16 → hD h' (B + 193) i = 0) ∧ ∀ i, (i < 16 * r ∨ 16 * r + 16 ≤ i) → hD h' (B + 193) i = hD hr (B + 193) i) (fun f j s hj H => by
    have e6 : hR s (B + 187) 20 = some (B + 193) := by rw [H.1.1]; exact pr_187_20 p2
    have ei : (16 * nI r + nI j : Int32) = nI (16 * r + j) := by rw [show (16 : Int32) = nI 16 from rfl, pk_mul, nI_add]
    refine ⟨sD s (B + 193) (16 * r + j) 0, ?_, H.1.stD, H.2.1, fun i h1 h2 => ?_, fun i hi => ?_⟩
    · show pX13_there_l28 g (B + 187) (nI r) (f + 1) (nI j) s = _
      rw [pX13_there_l28, pX13_there_b28, if_neg (show ¬ (16 : Int32) ≤ nI j from nI_ge (b := 16) hj (by omega)), w_lt, e6, w_nn, w_tg (st_193 S), sl_193 S, ei, w_ix (by omega) (by decide), w_lt, w_lt, nI_clamp (by omega), nI_1]
    · rw [hD_sD, if_pos rfl]
      by_cases e : i = 16 * r + j
      · rw [e, ud_s]
      · rw [ud_n e]; exact H.2.2.1 i h1 (by omega)
    · rw [hD_sD, if_pos rfl, ud_n (by omega)]; exact H.2.2.2 i hi) (fun f s H => ⟨s, by
    show pX13_there_l28 g (B + 187) (nI r) (f + 1) (nI 16) s = _
    rw [pX13_there_l28, pX13_there_b28, if_pos (by decide)], H⟩) 16 0 FUEL hr (by omega) (by decide) ⟨But1.rf _ hr, rfl, fun i h1 h2 => by omega, fun i _ => rfl⟩
/-- the row r is there, and at j of it the number that is told lands; what is told stands in the class's cell at B + t -/
theorem land_both (H : Rel B op g (sI hc B 19 0) hr) {r j : Nat} (hr6 : r < 6) (hj : j < 16) {v x : UInt64} {o : Int32} (N : NumR v o x) {t : Nat} (ht : t = 183 ∨ t = 184 ∨ t = 185 ∨ t = 186 ∨ t = 136 ∨ t = 137) (Tt : gT g (B + t) = 4) (t1 : hD hc (B + t) 0 = v) (t2 : hI hc (B + t) 1 = o) :
    ∃ hc1 hr1, pX3_land g hc (B + 13) (nI r) (nI j) (B + t) = some hc1 ∧ pX13_there g hr (B + 187) (nI r) = some hr1 ∧ Rel B op g (sI hc1 B 19 0) (sD hr1 (B + 193) (16 * r + j) x) ∧ (∀ y, y ≠ B + 13 + 3 + 3 * r → y ≠ B + 13 + 4 + 3 * r → y ≠ B + 33 → Eqa hc hc1 y) ∧ hR hc1 = hR hc ∧ hR hr1 = hR hr ∧ ∀ y, y ≠ B + 192 → y ≠ B + 193 → Eqa hr hr1 y := by
  have S := H.1
  have p1 : PtC B (hR hc) := H.2.1
  have p2 := H.2.2.1
  have hm : MacR B op g (sI hc B 19 0) 13 hr 0 := H.2.2.2.2.2.2.2.1
  have Ic : ∀ y, y ≠ B → hI (sI hc B 19 0) y = hI hc y := fun y hy => by rw [hI_sI, if_neg hy]
  obtain ⟨M1, M2, M3, M4, M5, -⟩ := machA_13 S p1
  obtain ⟨R1, R2⟩ := M5 r hr6
  have r6 : ¬ nI r < 0 ∧ nI r < 6 := ⟨nI_pos (by omega), nI_lt (b := 6) hr6 (by decide)⟩
  have hh := has_there hm hr6
  rw [Ic (B + 33) (by omega)] at hh
  have th := mac_th hm
  rw [Ic (B + 33) (by omega)] at th
  have rows := hm.1.2.2.2.2.2.2.1 r hr6
  rw [Ic _ (by omega), show hD (sI hc B 19 0) = hD hc from rfl] at rows
  -- both, the row being there
  have key : ∃ hc0 hr1, (pX3_land g hc (B + 13) (nI r) (nI j) (B + t) = pX3_land_b36 g (B + 13) (nI r) (nI j) (B + t) hc0) ∧ pX13_there g hr (B + 187) (nI r) = some hr1 ∧ hR hc0 = hR hc ∧ hR hr1 = hR hr ∧ (∀ y, y ≠ B + 13 + 3 + 3 * r → y ≠ B + 13 + 4 + 3 * r → y ≠ B + 33 → Eqa hc hc0 y) ∧ (∀ y, y ≠ B + 192 → y ≠ B + 193 → Eqa hr hr1 y)
      ∧ (∀ k, k < 6 → is01 (hI hc0 (B + 33) k)) ∧ hI hr1 (B + 192) 4 = rset (hI hc0 (B + 33)) ∧ (∀ i, i ≠ 4 → hI hr1 (B + 192) i = hI hr (B + 192) i) ∧ (∀ i, (i < 16 * r ∨ 16 * r + 16 ≤ i) → hD hr1 (B + 193) i = hD hr (B + 193) i) ∧ RowR 16 (hD hc0 (B + 13 + 3 + 3 * r)) (hI hc0 (B + 13 + 4 + 3 * r)) (hD hr1 (B + 193)) (16 * r) := by
    by_cases c : hI hc (B + 33) r = 0
    · obtain ⟨h2, c1, c2, c3⟩ := row_clear (h := hc) R2 (by decide)
      obtain ⟨h3, d1, d2, d3, d4, d5⟩ := m_there_l (S := S) (hr := sI hr (B + 192) 4 (hI hr (B + 192) 4 ||| ((1 : Int32) <<< (nI r &&& 31)))) p2 hr6
      have e33 : hI h2 (B + 33) = hI hc (B + 33) := (c2.2 (B + 33) (by omega) (by omega)).1
      refine ⟨sI h2 (B + 33) r 1, h3, ?_, ?_, by rw [hR_sI, c2.1], by rw [d2.1, hR_sI], fun y y1 y2 y3 => (c2.2 y (by omega) (by omega)).sI y3, fun y y1 y2 => ((Eqa.rf hr y).sI y1).tr (d2.2 y y2), ?_, ?_, fun i hi => ?_, fun i hi => d5 i hi, fun i hi => ?_⟩
      · unfold pX3_land
        rw [w_tg M1, if_neg r6.1, if_pos r6.2]
        have p13 : ∀ h, hR h = hR hc → hR h (B + 13) 1 = some (B + 33) := fun h e => by rw [e]; exact pc_13_1 p1
        simp only [w_lt, p13 hc rfl, p13 h2 c2.1, w_nn, w_tg (st_33 S), sl_33 S, w_ix hr6 (show 6 < 2 ^ 31 by decide), nI_clamp (show r < 2 ^ 31 by omega), if_pos c, M2, w_tg M3, M4, R1, w_tg R2.1, c1, w_bd]
        rfl
      · unfold pX13_there
        simp only [w_tg (st_187 S), w_lt, pr_187_19 p2, w_nn, w_tg (st_192 S), sl_192 S]
        rw [show (4 : Int32) = nI 4 from rfl, nI_clamp (show 4 < 2 ^ 31 by decide), hh, if_pos c]
        simp only [w_ix (show 4 < 1476 by decide) (show 1476 < 2 ^ 31 by decide), if_true]
        exact d1
      · intro k hk
        rw [hI_sI, if_pos rfl, e33]
        by_cases z : k = r
        · rw [z, ud_s]; exact is01_1
        · rw [ud_n z]; exact th.1 k hk
      · rw [d3, hI_s, hI_sI, if_pos rfl, e33, rset_land hr6, th.2]
      · rw [d3, hI_sI, if_pos rfl, ud_n hi]
      · rw [d4 _ (by omega) (by omega)]
        have z := c3 i hi
        have z1 : hD h2 (B + 13 + 3 + 3 * r) i = 0 := by rw [show B + 13 + 3 + 3 * r = B + 13 + 2 + 3 * r + 1 by omega]; exact z.1
        have z2 : hI h2 (B + 13 + 4 + 3 * r) i = 0 := by rw [show B + 13 + 4 + 3 * r = B + 13 + 2 + 3 * r + 2 by omega]; exact z.2
        rw [hD_sI, hI_sI, if_neg (by omega), z1, z2]
        exact NumR_ok nn_0
    · refine ⟨hc, hr, ?_, ?_, rfl, rfl, fun y _ _ _ => Eqa.rf hc y, fun y _ _ => Eqa.rf hr y, th.1, th.2, fun i _ => rfl, fun i _ => rfl, ?_⟩
      · unfold pX3_land
        rw [w_tg M1, if_neg r6.1, if_pos r6.2]
        simp only [w_lt, pc_13_1 p1, w_nn, w_tg (st_33 S), sl_33 S, w_ix hr6 (show 6 < 2 ^ 31 by decide), nI_clamp (show r < 2 ^ 31 by omega), if_neg c]
      · unfold pX13_there
        simp only [w_tg (st_187 S), w_lt, pr_187_19 p2, w_nn, w_tg (st_192 S), sl_192 S]
        rw [show (4 : Int32) = nI 4 from rfl, nI_clamp (show 4 < 2 ^ 31 by decide), hh, if_neg c, w_ix (show 4 < 1476 by decide) (by decide), if_neg (by decide)]
      · rw [show 16 * r = 164 * 0 + 16 * r by omega]; exact rows
  obtain ⟨hc0, hr1, k1, k2, k3, k4, k5, k6, k7, k8, k9, k10, k11⟩ := key
  have eT := k5 (B + t) (by omega) (by omega) (by omega)
  have R2' : RowA g (hR hc0) (B + 13 + 2 + 3 * r) 16 := by rw [k3]; exact R2
  have kp := row_keep (h := hc0) (p := B + t) R2' Tt hj (by decide) (by rw [eT.1, t2]; exact N.1)
  rw [eT.2.2.1, eT.1, t1, t2] at kp
  have fr : ∀ y, y ≠ B + 13 + 3 + 3 * r → y ≠ B + 13 + 4 + 3 * r → y ≠ B + 33 → Eqa hc (sI (sD hc0 (B + 13 + 2 + 3 * r + 1) j v) (B + 13 + 2 + 3 * r + 2) j o) y := fun y y1 y2 y3 => ((k5 y y1 y2 y3).sD (by omega)).sI (by omega)
  refine ⟨sI (sD hc0 (B + 13 + 2 + 3 * r + 1) j v) (B + 13 + 2 + 3 * r + 2) j o, hr1, ?_, k2, ?_, fr, k3, k4, k6⟩
  · rw [k1]
    unfold pX3_land_b36
    rw [w_lt, k3, M2, w_nn, w_tg M3, M4, w_ix hr6 (by decide), w_lt, nI_clamp (by omega), R1, w_nn, w_tg R2.1, kp, w_bd]
  · have fr' : ∀ y, y ≠ B + 13 + 3 + 3 * r → y ≠ B + 13 + 4 + 3 * r → y ≠ B + 33 → Eqa (sI hc B 19 0) (sI (sI (sD hc0 (B + 13 + 2 + 3 * r + 1) j v) (B + 13 + 2 + 3 * r + 2) j o) B 19 0) y := fun y y1 y2 y3 => by
      have e := fr y y1 y2 y3
      refine ⟨?_, e.2.1, e.2.2.1, e.2.2.2⟩
      rw [hI_sI, hI_sI (h := hc)]
      by_cases z : y = B
      · rw [if_pos z, if_pos z, (fr B (by omega) (by omega) (by omega)).1]
      · rw [if_neg z, if_neg z]; exact e.1
    have fv : ∀ y, y ≠ B + 192 → y ≠ B + 193 → Eqa hr (sD hr1 (B + 193) (16 * r + j) x) y := fun y y1 y2 => (k6 y y1 y2).sD y2
    have I3 : hI (sI (sI (sD hc0 (B + 13 + 2 + 3 * r + 1) j v) (B + 13 + 2 + 3 * r + 2) j o) B 19 0) (B + 13 + 20) = hI hc0 (B + 33) := by
      rw [hI_sI, if_neg (by omega), hI_sI, if_neg (by omega), hI_sD]
    have Dr : hD (sI (sI (sD hc0 (B + 13 + 2 + 3 * r + 1) j v) (B + 13 + 2 + 3 * r + 2) j o) B 19 0) (B + 13 + 3 + 3 * r) = ud (hD hc0 (B + 13 + 3 + 3 * r)) j v := by
      rw [hD_sI, hD_sI, hD_sD, if_pos (by omega), show B + 13 + 2 + 3 * r + 1 = B + 13 + 3 + 3 * r by omega]
    have Ir : hI (sI (sI (sD hc0 (B + 13 + 2 + 3 * r + 1) j v) (B + 13 + 2 + 3 * r + 2) j o) B 19 0) (B + 13 + 4 + 3 * r) = ud (hI hc0 (B + 13 + 4 + 3 * r)) j o := by
      rw [hI_sI, if_neg (by omega), hI_sI, if_pos (by omega), hI_sD, show B + 13 + 2 + 3 * r + 2 = B + 13 + 4 + 3 * r by omega]
    have hvI : hI (sD hr1 (B + 193) (16 * r + j) x) = hI hr1 := rfl
    have hvD : ∀ i, hD (sD hr1 (B + 193) (16 * r + j) x) (B + 193) i = if i = 16 * r + j then x else hD hr1 (B + 193) i := fun i => by rw [hD_sD, if_pos rfl]; rfl
    have pC : hR (sI (sI (sD hc0 (B + 13 + 2 + 3 * r + 1) j v) (B + 13 + 2 + 3 * r + 2) j o) B 19 0) = hR (sI hc B 19 0) := k3
    generalize hq2 : sI (sI (sD hc0 (B + 13 + 2 + 3 * r + 1) j v) (B + 13 + 2 + 3 * r + 2) j o) B 19 0 = h2 at *
    generalize hq3 : sD hr1 (B + 193) (16 * r + j) x = h3 at *
    have eB := (fr' B (by omega) (by omega) (by omega)).1
    refine H.num (W := [13 + 3 + 3 * r, 13 + 4 + 3 * r, 33]) (fun y z1 z2 => fr' y (by have := z2 (13 + 3 + 3 * r) (by simp); omega) (by have := z2 (13 + 4 + 3 * r) (by simp); omega) (z2 33 (by simp))) (fun y z1 z2 => fv y (z2 192 (by simp)) (z2 193 (by simp))) ?_ pC (by rw [← hq3]; exact k4) (fun i hi => ?_) (fun i hi => ?_) (fun k hk => by rw [eB]) ?_ ?_ ?_
    · rcases (by omega : r = 0 ∨ r = 1 ∨ r = 2 ∨ r = 3 ∨ r = 4 ∨ r = 5) with rfl | rfl | rfl | rfl | rfl | rfl <;> rfl
    · rw [hvI, k9 i (by omega)]
    · rw [hvD, if_neg (by omega), k10 i (by omega)]
    · obtain ⟨q1, q2, q3, q4, q5, q6, q7, q8, q9⟩ := H.2.2.2.1
      have e7 := fv (B + 187) (by omega) (by omega)
      have e130 := fr' (B + 130) (by omega) (by omega) (by omega)
      unfold ObjR
      rw [eB, e130.1, e130.2.1, (fr' (B + 11) (by omega) (by omega) (by omega)).1, e7.1, e7.2.1]
      exact ⟨q1, q2, q3, q4, q5, q6, q7, q8, q9⟩
    · refine MacD.vrow (r := r) hm.1 hr6 (fun i hi i1 i2 i3 => ?_) (fun k hk => by rw [I3]; exact k7 k hk) (fun i hi => by rw [hvI]; exact k9 i (by omega)) (by rw [hvI, I3]; exact k8) ?_ (fun i hi => by rw [hvD, if_neg (by omega)]; exact k10 i (by omega))
      · have := fr' (B + 13 + i) (by omega) (by omega) (by omega)
        exact ⟨this.1, this.2.2.1⟩
      · rw [Dr, Ir, show 164 * 0 + 16 * r = 16 * r by omega]
        refine k11.put N fun i hi => ?_
        rw [hvD]
        by_cases z : i = j
        · rw [z, if_pos rfl, if_pos rfl]
        · rw [if_neg (by omega), if_neg z]
    · exact ScrR.same H.2.2.2.2.2.2.2.2.2.2 fun n hn => (fr' (B + n) (by omega) (by omega) (by omega)).1
theorem C_put : K_put B E op := by
  intro a b m e g hc hr H
  have S := H.1
  have p1 := H.2.1
  have p2 := H.2.2.1
  have i5 := isIn_l a 5 (by decide)
  rw [show (lN 5 : Int64) = 5 from rfl] at i5
  have i15 := isIn_l b 15 (by decide)
  rw [show (lN 15 : Int64) = 15 from rfl] at i15
  have b15 : pX12_within b 0 15 = pX12_within b 0 (nI 15) := rfl
  have a5 : pX12_within a 0 5 = pX12_within a 0 (nI 5) := rfl
  rcases within_0 a 5 (by decide) with ⟨q, -⟩ | ⟨q, r, hr6, rfl⟩
  · exact ⟨-1, _, _, by simp only [pX12_put, pX12_put_b19, w_tg (st_0 S), a5, if_pos q, k_refuse S, w_bd2], by simp only [pX13_put, pX13_put_b24, w_tg (st_187 S), w_lt, pX13_isRow, i5, if_pos q, m_refuse S, w_bd2, sI_sI], H.stat 2 0⟩
  · have q' : ¬ pX12_within (nI r) 0 (nI 5) = 0 := by rw [q]; decide
    rcases within_0 b 15 (by decide) with ⟨u, -⟩ | ⟨u, j, hj, rfl⟩
    · exact ⟨-1, _, _, by simp only [pX12_put, pX12_put_b19, w_tg (st_0 S), a5, if_neg q', b15, if_pos u, k_refuse S, w_bd2], by simp only [pX13_put, pX13_put_b24, w_tg (st_187 S), w_lt, pX13_isRow, pX13_isElement, i5, if_neg q', i15, if_pos u, m_refuse S, w_bd2, sI_sI], H.stat 2 0⟩
    · have u' : ¬ pX12_within (nI j) 0 (nI 15) = 0 := by rw [u]; decide
      by_cases c : pX13_isNumber m e = 0
      · exact ⟨-1, _, _, by simp only [pX12_put, w_tg (st_0 S), a5, if_neg q', b15, if_neg u', isNum_eq, if_pos c, k_refuse S, w_bd2], by simp only [pX13_put, w_tg (st_187 S), w_lt, pX13_isRow, pX13_isElement, i5, if_neg q', i15, if_neg u', if_pos c, m_refuse S, w_bd2, sI_sI], H.stat 5 0⟩
      · obtain ⟨bm, be⟩ := isNum_b c
        obtain ⟨x, x1, -, xn⟩ := made (p1 := m) (p3 := e) (SpH_of S p1 H.2.2.2.2.1) (g' := g) (h' := hr) bm be
        have x2 : ∀ h, pX13_madeOf g h m e = some x := fun h => by
          obtain ⟨y, y1, y2, -⟩ := made (p1 := m) (p3 := e) (SpH_of S p1 H.2.2.2.2.1) (g' := g) (h' := h) bm be
          rw [x1] at y1; cases y1; exact y2
        have N := NumR_ok xn
        obtain ⟨hc1, hr1, l1, l2, l3, l4, l5, l6, l7⟩ := land_both (hc := numW hc (B + 183) x 0) ((H.scrN (n := 183) (by omega) (v := x) is01_0).stat 0 0) (show r < 6 by omega) (show j < 16 by omega) N (t := 183) (Or.inl rfl) (st_183 S) (numW_d _ _ _ _) (numW_i _ _ _ _)
        have e3 := l4 (B + 183) (by omega) (by omega) (by omega)
        obtain ⟨k, hc', hr', t1, t2, t3⟩ := told_both (hc := hc1) l3 (b := B + 183) (Or.inr (Or.inr (Or.inr rfl))) (x := x) (by rw [e3.1, e3.2.2.1, numW_d, numW_i]; exact N)
        have ei : (16 * nI r + nI j : Int32) = nI (16 * r + j) := by rw [show (16 : Int32) = nI 16 from rfl, pk_mul, nI_add]
        refine ⟨k, hc', hr', ?_, ?_, t3⟩
        · show pX12_put g hc B (nI r) (nI j) m e = _
          unfold pX12_put
          rw [isNum_eq]
          simp only [w_tg (st_0 S), a5, if_neg q', b15, if_neg u', if_neg c, w_lt, pc_0_15 p1, pc_0_14 p1, w_nn, w_tg (st_130 S), x1, w_bd, w_tg (st_183 S)]
          rw [n_set (st_183 S), w_bd]
          rw [show hR (numW hc (B + 183) x 0) B 4 = some (B + 13) from pc_0_4 p1, w_nn, w_tg (st_13 S), show hR (numW hc (B + 183) x 0) B 15 = some (B + 183) from pc_0_15 p1, w_nn, l1, w_bd]
          rw [show hR hc1 B 15 = some (B + 183) from by rw [l5]; exact pc_0_15 p1, w_nn, t1, w_bd2]
        · show pX13_put g hr (B + 187) (nI r) (nI j) m e = _
          simp only [pX13_put, w_tg (st_187 S), w_lt, pX13_isRow, pX13_isElement, i5, if_neg q', i15, if_neg u', if_neg c, l2, w_bd, x2]
          unfold pX13_becomes
          rw [w_tg (st_187 S), w_lt, show hR hr1 (B + 187) 20 = some (B + 193) from by rw [l6]; exact pr_187_20 p2, w_nn, w_tg (st_193 S), sl_193 S, ei, w_ix (show 16 * r + j < 984 by omega) (by decide), w_lt, nI_clamp (by omega), t2, w_bd2, w_bd2]
end PPT
