/-! give, poke -/
section PPK
variable {B : Nat} {E : EC} {op : Nat → Nat} {g : MT} {hc hr hc' hr' : CT}
theorem MacD.scal {q c v a : Nat} {cc : Nat → Int32} {vv vv' : Nat → UInt64} {w y : UInt64} {p : Int32} (H : MacD hc q cc vv c v) (ha : a < 4) (N : NumR w p y) (e : ∀ j, j < 27 → j ≠ 22 → j ≠ 23 → hI hc' (q + j) = hI hc (q + j) ∧ hD hc' (q + j) = hD hc (q + j)) (e1 : hD hc' (q + 22) = ud (hD hc (q + 22)) a w) (e2 : hI hc' (q + 23) = ud (hI hc (q + 23)) a p) (ev : ∀ i, vv' i = if i = v + 96 + a then y else vv i) : MacD hc' q cc vv' c v := by
  obtain ⟨h1, h2, h3, h4, h5, h6, h7, h8, h9⟩ := H
  have e0 : hI hc' q = hI hc q := (e 0 (by omega) (by omega) (by omega)).1
  refine ⟨by rw [e0]; exact h1, by rw [e0]; exact h2, by rw [e0]; exact h3, by rw [e0]; exact h4, by rw [(e 20 (by omega) (by omega) (by omega)).1]; exact h5, by rw [(e 20 (by omega) (by omega) (by omega)).1]; exact h6, fun r hr => ?_, ?_, ?_⟩
  · have a1 := (e (3 + 3 * r) (by omega) (by omega) (by omega)).2
    have a2 := (e (4 + 3 * r) (by omega) (by omega) (by omega)).1
    rw [← Nat.add_assoc] at a1 a2
    rw [a1, a2]
    exact (h7 r hr).to fun j hj => by rw [ev, if_neg (by omega)]
  · rw [e1, e2]
    refine h8.put N fun j hj => ?_
    rw [ev]
    by_cases z : j = a
    · rw [z, if_pos rfl, if_pos rfl]
    · rw [if_neg (by omega), if_neg z]
  · rw [(e 25 (by omega) (by omega) (by omega)).2, (e 26 (by omega) (by omega) (by omega)).1]
    exact h9.to fun j hj => by rw [ev, if_neg (by omega)]
/-- a row of numbers kept at one place, from the number that is told: words and scalars -/
theorem Rel.putT (H : Rel B op g hc hr) {q n b w t : Nat} (ht : t = 183 ∨ t = 184 ∨ t = 185 ∨ t = 186) (hq : (q = 37 ∧ n = 64 ∧ b = 100) ∨ (q = 34 ∧ n = 4 ∧ b = 96)) (hw : w < n) {v x : UInt64} {o : Int32} (N : NumR v o x) :
    Rel B op g (sI (sD (numW hc (B + t) v o) (B + q + 1) w v) (B + q + 2) w o) (sD hr (B + 193) (b + w) x) := by
  have hm : MacR B op g hc 13 hr 0 := H.2.2.2.2.2.2.2.1
  have Ie : ∀ y, y ≠ B + t → y ≠ B + q + 2 → hI (sI (sD (numW hc (B + t) v o) (B + q + 1) w v) (B + q + 2) w o) y = hI hc y := fun y y1 y2 => by rw [hI_sI, if_neg y2, hI_sD, numW_I _ _ _ _ y1]
  have De : ∀ y, y ≠ B + t → y ≠ B + q + 1 → hD (sI (sD (numW hc (B + t) v o) (B + q + 1) w v) (B + q + 2) w o) y = hD hc y := fun y y1 y2 => by rw [hD_sI, hD_sD, if_neg y2, numW_D _ _ _ _ y1]
  have Iq : hI (sI (sD (numW hc (B + t) v o) (B + q + 1) w v) (B + q + 2) w o) (B + q + 2) = ud (hI hc (B + q + 2)) w o := by rw [hI_sI, if_pos rfl, hI_sD, numW_I _ _ _ _ (by omega)]
  have Dq : hD (sI (sD (numW hc (B + t) v o) (B + q + 1) w v) (B + q + 2) w o) (B + q + 1) = ud (hD hc (B + q + 1)) w v := by rw [hD_sI, hD_sD, if_pos rfl, numW_D _ _ _ _ (by omega)]
  have I3 : hI (sI (sD (numW hc (B + t) v o) (B + q + 1) w v) (B + q + 2) w o) (B + t) 1 = o := by rw [hI_sI, if_neg (by omega), hI_sD, numW_i]
  have hv : ∀ i, hD (sD hr (B + 193) (b + w) x) (B + 193) i = if i = b + w then x else hD hr (B + 193) i := fun i => by rw [hD_sD, if_pos rfl]; rfl
  have fr : ∀ y, y ≠ B + t → y ≠ B + q + 1 → y ≠ B + q + 2 → Eqa hc (sI (sD (numW hc (B + t) v o) (B + q + 1) w v) (B + q + 2) w o) y := fun y y1 y2 y3 => (((Eqa.rf hc y).num y1).sD y2).sI y3
  generalize hh : sI (sD (numW hc (B + t) v o) (B + q + 1) w v) (B + q + 2) w o = h2 at *
  have eB := Ie B (by omega) (by omega)
  refine H.num (W := [q + 1, q + 2, t]) (fun y z1 z2 => fr y (z2 t (by simp)) (by have := z2 (q + 1) (by simp); omega) (by have := z2 (q + 2) (by simp); omega)) (fun y z1 z2 => (Eqa.rf hr y).sD (z2 193 (by simp))) ?_ (by rw [← hh]; rfl) rfl (fun i hi => rfl) (fun i hi => ?_) (fun k hk => by rw [eB]) ?_ ?_ ?_
  · rcases hq with ⟨rfl, -, -⟩ | ⟨rfl, -, -⟩ <;> rcases ht with rfl | rfl | rfl | rfl <;> rfl
  · rw [hv, if_neg (by omega)]
  · obtain ⟨q1, q2, q3, q4, q5, q6, q7, q8, q9⟩ := H.2.2.2.1
    unfold ObjR
    rw [eB, Ie (B + 130) (by omega) (by omega), Ie (B + 11) (by omega) (by omega), (fr (B + 130) (by omega) (by omega) (by omega)).2.1]
    exact ⟨q1, q2, q3, q4, q5, q6, q7, q8, q9⟩
  · rcases hq with ⟨rfl, rfl, rfl⟩ | ⟨rfl, rfl, rfl⟩
    · refine MacD.mem (a := w) (hc := hc) hm.1 hw N (fun j hj => ⟨Ie _ (by omega) (by omega), De _ (by omega) (by omega)⟩) Dq Iq (fun i => ?_)
      rw [hv, show 164 * 0 + 100 + w = 100 + w by omega]
    · refine MacD.scal (a := w) (hc := hc) hm.1 hw N (fun j hj j1 j2 => ⟨Ie _ (by omega) (by omega), De _ (by omega) (by omega)⟩) Dq Iq (fun i => ?_)
      rw [hv, show 164 * 0 + 96 + w = 96 + w by omega]
  · obtain ⟨s1, s2, s3, s4, s5, s6⟩ := H.2.2.2.2.2.2.2.2.2.2
    have all : ∀ m, is01 (hI hc (B + m) 1) → 130 ≤ m → is01 (hI h2 (B + m) 1) := fun m hm h13 => by
      by_cases e : m = t
      · rw [e, I3]; exact N.1
      · rw [Ie _ (by omega) (by omega)]; exact hm
    exact ⟨all _ s1 (by omega), all _ s2 (by omega), all _ s3 (by omega), all _ s4 (by omega), all _ s5 (by omega), all _ s6 (by omega)⟩
theorem Rel.put1 (H : Rel B op g hc hr) {q n b w : Nat} (hq : (q = 37 ∧ n = 64 ∧ b = 100) ∨ (q = 34 ∧ n = 4 ∧ b = 96)) (hw : w < n) {v x : UInt64} {o : Int32} (N : NumR v o x) :
    Rel B op g (sI (sD (numW hc (B + 183) v o) (B + q + 1) w v) (B + q + 2) w o) (sD hr (B + 193) (b + w) x) := H.putT (t := 183) (Or.inl rfl) hq hw N
theorem isNum_eq (m : Int64) (e : Int32) : pX12_isNumber m e = pX13_isNumber m e := by
  have h2 : pX13_isIn (Int32.toInt64 e) (-200) 200 = pX12_within e (-200) 200 := isIn_w e (-200) 200
  unfold pX12_isNumber pX13_isNumber
  rw [h2]
  unfold pX13_isIn
  by_cases c1 : lg_cmp m (-9007199254740992) < 0
  · simp only [if_pos c1, if_true]
  · by_cases c2 : 0 < lg_cmp m 9007199254740992
    · simp only [if_neg c1, if_pos c2, if_true]
    · simp only [if_neg c1, if_neg c2, if_neg (show ¬ (1 : Int32) = 0 by decide)]
theorem isNum_b {m : Int64} {e : Int32} (h : ¬ pX13_isNumber m e = 0) : m.toInt.natAbs ≤ 2 ^ 53 ∧ -200 ≤ e.toInt ∧ e.toInt ≤ 200 := by
  have h2 : pX13_isIn (Int32.toInt64 e) (-200) 200 = pX12_within e (-200) 200 := isIn_w e (-200) 200
  unfold pX13_isNumber at h
  rw [h2] at h
  unfold pX13_isIn pX12_within at h
  have l1 : (-9007199254740992 : Int64).toInt = -9007199254740992 := rfl
  have l2 : (9007199254740992 : Int64).toInt = 9007199254740992 := rfl
  have i1 : (-200 : Int32).toInt = -200 := rfl
  have i2 : (200 : Int32).toInt = 200 := rfl
  by_cases c1 : lg_cmp m (-9007199254740992) < 0
  · simp only [if_pos c1, if_true, not_true] at h
  · by_cases c2 : 0 < lg_cmp m 9007199254740992
    · simp only [if_neg c1, if_pos c2, if_true, not_true] at h
    · by_cases c3 : e < -200
      · simp only [if_neg c1, if_neg c2, if_pos c3, if_neg (show ¬ (1 : Int32) = 0 by decide), if_true, not_true] at h
      · by_cases c4 : 200 < e
        · simp only [if_neg c1, if_neg c2, if_neg c3, if_pos c4, if_neg (show ¬ (1 : Int32) = 0 by decide), if_true, not_true] at h
        · rw [lgc_lt, l1] at c1
          rw [lgc_gt, l2] at c2
          rw [Int32.lt_iff_toInt_lt, i1] at c3
          rw [Int32.lt_iff_toInt_lt, i2] at c4
          omega
theorem place_both (H : Rel B op g hc hr) {q n b w : Nat} (hq : (q = 37 ∧ n = 64 ∧ b = 100) ∨ (q = 34 ∧ n = 4 ∧ b = 96)) (hw : w < n) (R : RowA g (hR hc) (B + q) n) (m : Int64) (e : Int32) (hne : ¬ pX13_isNumber m e = 0) :
    ∃ x k hc' hr', pX12_placeNumber g hc B (B + q) (nI w) m e = some (k, hc') ∧ (∀ h, pX13_madeOf g h m e = some x) ∧ pX13_becomes g (sI (sI hr (B + 187) 1 0) (B + 187) 0 0) (B + 187) (nI (b + w)) x = some (k, hr') ∧ Rel B op g hc' hr' := by
  have S := H.1
  have p1 := H.2.1
  have p2 := H.2.2.1
  obtain ⟨bm, be⟩ := isNum_b hne
  obtain ⟨x, x1, -, xn⟩ := made (p1 := m) (p3 := e) (SpH_of S p1 H.2.2.2.2.1) (g' := g) (h' := hr) bm be
  have x2 : ∀ h, pX13_madeOf g h m e = some x := fun h => by
    obtain ⟨y, y1, y2, -⟩ := made (p1 := m) (p3 := e) (SpH_of S p1 H.2.2.2.2.1) (g' := g) (h' := h) bm be
    rw [x1] at y1; cases y1; exact y2
  have N := NumR_ok xn
  have H2 := (H.put1 hq hw N).stat 0 0
  obtain ⟨k, hc', hr', t1, t2, t3⟩ := told_both (hc := sI (sD (numW hc (B + 183) x 0) (B + q + 1) w x) (B + q + 2) w 0) H2 (b := B + 183) (Or.inr (Or.inr (Or.inr rfl))) (x := x) (by
    rw [hI_sI, if_neg (by omega), hI_sD, numW_i, hD_sI, hD_sD, if_neg (by omega), numW_d]; exact N)
  have kp := row_keep (h := numW hc (B + 183) x 0) (p := B + 183) R (st_183 S) hw (by omega) (by rw [numW_i]; exact is01_0)
  rw [numW_d, numW_i] at kp
  refine ⟨x, k, hc', hr', ?_, x2, ?_, t3⟩
  · unfold pX12_placeNumber
    rw [isNum_eq]
    simp only [w_tg (st_0 S), if_neg hne, w_lt, pc_0_15 p1, pc_0_14 p1, w_nn, w_tg (st_130 S), x1, w_bd, w_tg (st_183 S)]
    rw [n_set (st_183 S), w_bd, w_tg R.1]
    rw [show hR (numW hc (B + 183) x 0) B 15 = some (B + 183) from pc_0_15 p1, w_nn, kp, w_bd]
    rw [show hR (sI (sD (numW hc (B + 183) x 0) (B + q + 1) w x) (B + q + 2) w 0) B 15 = some (B + 183) from pc_0_15 p1, w_nn, t1, w_bd2]
  · unfold pX13_becomes
    rw [w_tg (st_187 S), w_lt, show hR (sI (sI hr (B + 187) 1 0) (B + 187) 0 0) (B + 187) 20 = some (B + 193) from pr_187_20 p2, w_nn, w_tg (st_193 S), sl_193 S, w_ix (show b + w < 984 by omega) (by decide), w_lt, nI_clamp (by omega)]
    rw [show sD (sI (sI hr (B + 187) 1 0) (B + 187) 0 0) (B + 193) (b + w) x = sI (sI (sD hr (B + 193) (b + w) x) (B + 187) 1 0) (B + 187) 0 0 from rfl, t2, w_bd2]
theorem C_poke : K_poke B E op := by
  intro a m e g hc hr H
  have S := H.1
  have p1 := H.2.1
  have p2 := H.2.2.1
  have i63 := isIn_l a 63 (by decide)
  rw [show (lN 63 : Int64) = 63 from rfl] at i63
  have eW : ∀ x, pX12_isWord x = pX12_within x 0 (nI 63) := fun _ => rfl
  rcases within_0 a 63 (by decide) with ⟨q, -⟩ | ⟨q, w, hw, rfl⟩
  · exact ⟨-1, _, _, by simp only [pX12_poke, w_tg (st_0 S), eW, if_pos q, k_refuse S, w_bd2], by simp only [pX13_poke, w_tg (st_187 S), w_lt, pX13_isWordAt, i63, if_pos q, m_refuse S, w_bd2, sI_sI], H.stat 2 0⟩
  · have q' : ¬ pX12_within (nI w) 0 (nI 63) = 0 := by rw [q]; decide
    have ei : (100 + nI w : Int32) = nI (100 + w) := nI_add 100 w
    by_cases c : pX13_isNumber m e = 0
    · refine ⟨-1, _, _, ?_, ?_, H.stat 5 0⟩
      · simp only [pX12_poke, w_tg (st_0 S), eW, if_neg q', w_lt, pc_0_4 p1, w_nn, w_tg (st_13 S), pc_13_3 p1, pX12_placeNumber, isNum_eq, if_pos c, k_refuse S, w_bd2]
      · simp only [pX13_poke, w_tg (st_187 S), w_lt, pX13_isWordAt, i63, if_neg q', if_pos c, m_refuse S, w_bd2, sI_sI]
    · obtain ⟨x, k, hc', hr', t1, t2, t3, t4⟩ := place_both H (q := 37) (n := 64) (b := 100) (w := w) (Or.inl ⟨rfl, rfl, rfl⟩) (by omega) (word_row S p1) m e c
      refine ⟨k, hc', hr', ?_, ?_, t4⟩
      · simp only [pX12_poke, w_tg (st_0 S), eW, if_neg q', w_lt, pc_0_4 p1, w_nn, w_tg (st_13 S), pc_13_3 p1, t1, w_bd2]
      · simp only [pX13_poke, w_tg (st_187 S), w_lt, pX13_isWordAt, i63, if_neg q', if_neg c, t2, w_bd, ei, t3, w_bd2]
theorem C_give : K_give B E op := by
  intro a m e g hc hr H
  have S := H.1
  have p1 := H.2.1
  have p2 := H.2.2.1
  have i63 := isIn_l a 3 (by decide)
  rw [show (lN 3 : Int64) = 3 from rfl] at i63
  have eW : pX12_within a 0 3 = pX12_within a 0 (nI 3) := rfl
  rcases within_0 a 3 (by decide) with ⟨q, -⟩ | ⟨q, w, hw, rfl⟩
  · exact ⟨-1, _, _, by simp only [pX12_give, w_tg (st_0 S), eW, if_pos q, k_refuse S, w_bd2], by simp only [pX13_give, w_tg (st_187 S), w_lt, pX13_isScalar, i63, if_pos q, m_refuse S, w_bd2, sI_sI], H.stat 2 0⟩
  · have q' : ¬ pX12_within (nI w) 0 (nI 3) = 0 := by rw [q]; decide
    have ei : (96 + nI w : Int32) = nI (96 + w) := nI_add 96 w
    by_cases c : pX13_isNumber m e = 0
    · refine ⟨-1, _, _, ?_, ?_, H.stat 5 0⟩
      · simp only [pX12_give, w_tg (st_0 S), eW, if_neg q', w_lt, pc_0_4 p1, w_nn, w_tg (st_13 S), pc_13_2 p1, pX12_placeNumber, isNum_eq, if_pos c, k_refuse S, w_bd2]
      · simp only [pX13_give, w_tg (st_187 S), w_lt, pX13_isScalar, i63, if_neg q', if_pos c, m_refuse S, w_bd2, sI_sI]
    · obtain ⟨x, k, hc', hr', t1, t2, t3, t4⟩ := place_both H (q := 34) (n := 4) (b := 96) (w := w) (Or.inr ⟨rfl, rfl, rfl⟩) (by omega) (scal_row S p1) m e c
      refine ⟨k, hc', hr', ?_, ?_, t4⟩
      · simp only [pX12_give, w_tg (st_0 S), eW, if_neg q', w_lt, pc_0_4 p1, w_nn, w_tg (st_13 S), pc_13_2 p1, t1, w_bd2]
      · simp only [pX13_give, w_tg (st_187 S), w_lt, pX13_isScalar, i63, if_neg q', if_neg c, t2, w_bd, ei, t3, w_bd2]
end PPK
