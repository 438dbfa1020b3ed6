/-! NUMBERS are written: the memory, strange -/
section MEM
variable {B : Nat} {E : EC} {op : Nat → Nat} {g : MT} {W : List Nat} {hc hr hc' hr' : CT}
theorem RowR.put {n : Nat} {v : Nat → UInt64} {o : Nat → Int32} {x x' : Nat → UInt64} {b i : Nat} {w y : UInt64} {p : Int32} (H : RowR n v o x b) (N : NumR w p y) (hx : ∀ j, j < n → x' (b + j) = if j = i then y else x (b + j)) : RowR n (ud v i w) (ud o i p) x' b := fun j hj => by
  rw [hx j hj]
  by_cases e : j = i
  · rw [e, ud_s, ud_s, if_pos rfl]; exact N
  · rw [ud_n e, ud_n e, if_neg e]; exact H j hj
theorem RowR.to {n : Nat} {v : Nat → UInt64} {o : Nat → Int32} {x x' : Nat → UInt64} {b : Nat} (H : RowR n v o x b) (hx : ∀ j, j < n → x' (b + j) = x (b + j)) : RowR n v o x' b := fun j hj => by rw [hx j hj]; exact H j hj
/-- numbers alone are written: the class's cells W, the reference's row v below 164, and what it tells -/
theorem Rel.num (H : Rel B op g hc hr) (o : OfC B W hc hc') (o' : OfR B [187, 192, 193] hr hr') (hW : W.all (fun w => w == 0 || (13 ≤ w && w ≤ 39) || w == 130 || (132 ≤ w && w ≤ 137) || (183 ≤ w && w ≤ 186)) = true) (pC : hR hc' = hR hc) (pR : hR hr' = hR hr) (ec : ∀ i, 5 ≤ i → hI hr' (B + 192) i = hI hr (B + 192) i) (ev : ∀ i, 164 ≤ i → hD hr' (B + 193) i = hD hr (B + 193) i)
    (fB : ∀ k, k = 2 ∨ k = 6 ∨ k = 9 ∨ k = 10 → hI hc' B k = hI hc B k) (nO : ObjR B hc' hr') (nM : MacD hc' (B + 13) (hI hr' (B + 192)) (hD hr' (B + 193)) 0 0) (nS : ScrR B hc') : Rel B op g hc' hr' := by
  have at' : ∀ w ∈ W, w = 0 ∨ (13 ≤ w ∧ w ≤ 39) ∨ w = 130 ∨ (132 ≤ w ∧ w ≤ 137) ∨ (183 ≤ w ∧ w ≤ 186) := fun w hw => by
    have := List.all_eq_true.mp hW w hw
    simpa [or_assoc] using this
  have hM : okM W = true := List.all_eq_true.mpr fun w hw => by
    have := at' w hw
    simp only [Bool.or_eq_true, Bool.and_eq_true, decide_eq_true_eq, beq_iff_eq]
    omega
  have hw2 : okW W = true := by
    refine List.all_eq_true.mpr fun w hw => ?_
    have key : ∀ w, w < 187 → (w = 0 ∨ (13 ≤ w ∧ w ≤ 39) ∨ w = 130 ∨ (132 ≤ w ∧ w ≤ 137) ∨ (183 ≤ w ∧ w ≤ 186)) → (match stg[w]? with | some q => (q.1 != 6 && q.1 != 25 && q.1 != 2) || w == 174 || w == 175 | none => false) = true := by decide +kernel
    have := at' w hw
    exact key w (by omega) this
  refine H.mac o o' hM hw2 rfl (by rw [pC]; exact H.2.1) (by rw [pR]; exact H.2.2.1) (fun i i1 _ => ec i (by omega)) (fun i i1 _ => ev i i1) (fB 2 (by omega)) (fB 6 (by omega)) nO ⟨nM, H.2.2.2.2.2.2.2.1.2.keep2 H.1 o hw2 (by rw [pC]) (fun i i1 _ => ec i (by omega))⟩ (H.2.2.2.2.2.2.2.2.2.1.keep o o' (List.all_eq_true.mpr fun w hw => ?_) rfl (fB 9 (by omega)) (fB 10 (by omega))) nS
  have := at' w hw
  simp only [Bool.or_eq_true, decide_eq_true_eq]
  omega
theorem word_row (S : Sh B g) (p : PtC B (hR hc)) : RowA g (hR hc) (B + 37) 64 := ⟨st_37 S, pc_37_0 p, pc_37_1 p, st_38 S, sl_38 S, st_39 S, sl_39 S⟩
theorem scal_row (S : Sh B g) (p : PtC B (hR hc)) : RowA g (hR hc) (B + 34) 4 := ⟨st_34 S, pc_34_0 p, pc_34_1 p, st_35 S, sl_35 S, st_36 S, sl_36 S⟩
/-- the memory's rows where a word was written -/
theorem MacD.mem {q c v a : Nat} {cc : Nat → Int32} {vv vv' : Nat → UInt64} {w y : UInt64} {p : Int32} (H : MacD hc q cc vv c v) (ha : a < 64) (N : NumR w p y) (e : ∀ j, j < 25 → hI hc' (q + j) = hI hc (q + j) ∧ hD hc' (q + j) = hD hc (q + j)) (e1 : hD hc' (q + 25) = ud (hD hc (q + 25)) a w) (e2 : hI hc' (q + 26) = ud (hI hc (q + 26)) a p) (ev : ∀ i, vv' i = if i = v + 100 + a then y else vv i) : MacD hc' q cc vv' c v := by
  obtain ⟨h1, h2, h3, h4, h5, h6, h7, h8, h9⟩ := H
  have e0 : hI hc' q = hI hc q := (e 0 (by omega)).1
  refine ⟨by rw [e0]; exact h1, by rw [e0]; exact h2, by rw [e0]; exact h3, by rw [e0]; exact h4, by rw [(e 20 (by omega)).1]; exact h5, by rw [(e 20 (by omega)).1]; exact h6, fun r hr => ?_, ?_, ?_⟩
  · have a1 := (e (3 + 3 * r) (by omega)).2
    have a2 := (e (4 + 3 * r) (by omega)).1
    rw [← Nat.add_assoc] at a1 a2
    rw [a1, a2]
    exact (h7 r hr).to fun j hj => by rw [ev, if_neg (by omega)]
  · rw [(e 22 (by omega)).2, (e 23 (by omega)).1]
    exact h8.to fun j hj => by rw [ev, if_neg (by omega)]
  · rw [e1, e2]
    refine h9.put N fun j hj => ?_
    rw [ev]
    by_cases z : j = a
    · rw [z, if_pos rfl, if_pos rfl]
    · rw [if_neg (by omega), if_neg z]
theorem numW_I (h : CT) (a : Nat) (v : UInt64) (o : Int32) {b : Nat} (hb : b ≠ a) : hI (numW h a v o) b = hI h b := by unfold numW; rw [hI_sI, if_neg hb, hI_sD]
theorem numW_D (h : CT) (a : Nat) (v : UInt64) (o : Int32) {b : Nat} (hb : b ≠ a) : hD (numW h a v o) b = hD h b := by unfold numW; rw [hD_sI, hD_sD, if_neg hb]
theorem numW_d (h : CT) (a : Nat) (v : UInt64) (o : Int32) : hD (numW h a v o) a 0 = v := by unfold numW; rw [hD_sI]; exact hD_s _ _ _ _
theorem numW_i (h : CT) (a : Nat) (v : UInt64) (o : Int32) : hI (numW h a v o) a 1 = o := hI_s _ _ _ _
theorem numW_W (h : CT) (a : Nat) (v w : UInt64) (o p : Int32) : numW (numW h a v o) a w p = numW h a w p := by
  have s1 : ∀ (f : Nat → Nat → Int32) (a k : Nat) (x y : Int32), up2 (up2 f a k x) a k y = up2 f a k y := fun f a k x y => by funext b j; unfold up2; split <;> rfl
  have s2 : ∀ (f : Nat → Nat → UInt64) (a k : Nat) (x y : UInt64), up2 (up2 f a k x) a k y = up2 f a k y := fun f a k x y => by funext b j; unfold up2; split <;> rfl
  show (up2 (up2 h.1 a 1 o) a 1 p, h.2.1, up2 (up2 h.2.2.1 a 0 v) a 0 w, h.2.2.2) = (up2 h.1 a 1 p, h.2.1, up2 h.2.2.1 a 0 w, h.2.2.2)
  rw [s1, s2]
theorem Eqa.num {h h1 : CT} {a b : Nat} {v : UInt64} {o : Int32} (e : Eqa h h1 a) (hb : a ≠ b) : Eqa h (numW h1 b v o) a := (e.sD hb).sI hb
theorem C_strange : K_strange B E op := by
  intro a k g hc hr H
  have S := H.1
  have p1 := H.2.1
  have p2 := H.2.2.1
  have hm : MacR B op g hc 13 hr 0 := H.2.2.2.2.2.2.2.1
  have i63 := isIn_l a 63 (by decide)
  rw [show (lN 63 : Int64) = 63 from rfl] at i63
  have ik : pX13_isIn (Int32.toInt64 k) 1 5 = pX12_within k 1 5 := isIn_w k 1 5
  have eW : ∀ x, pX12_isWord x = pX12_within x 0 (nI 63) := fun _ => rfl
  rcases within_0 a 63 (by decide) with ⟨e, -⟩ | ⟨e, w, hw, rfl⟩
  · exact ⟨-1, _, _, by simp only [pX12_strange, w_tg (st_0 S), eW, if_pos e, k_refuse S, w_bd2], by simp only [pX13_strange, w_tg (st_187 S), w_lt, pX13_isWordAt, i63, if_pos e, m_refuse S, w_bd2, sI_sI], H.stat 2 0⟩
  · have e' : ¬ pX12_within (nI w) 0 (nI 63) = 0 := by rw [e]; decide
    rcases within_g k 1 5 (by decide) (by decide) with q | ⟨q, n, l1, l2, rfl⟩
    · have q' : pX12_within k 1 5 = 0 := q
      exact ⟨-1, _, _, by simp only [pX12_strange, w_tg (st_0 S), eW, if_neg e', if_pos q', k_refuse S, w_bd2], by simp only [pX13_strange, w_tg (st_187 S), w_lt, pX13_isWordAt, i63, if_neg e', ik, if_pos q', m_refuse S, w_bd2, sI_sI], H.stat 5 0⟩
    · have q' : ¬ pX12_within (nI n) 1 5 = 0 := by
        have : pX12_within (nI n) 1 5 = 1 := q
        rw [this]; decide
      have hn5 : nI n = 1 ∨ nI n = 2 ∨ nI n = 3 ∨ nI n = 4 ∨ nI n = 5 := by
        have : n = 1 ∨ n = 2 ∨ n = 3 ∨ n = 4 ∨ n = 5 := by omega
        rcases this with rfl | rfl | rfl | rfl | rfl
        · exact Or.inl rfl
        · exact Or.inr (Or.inl rfl)
        · exact Or.inr (Or.inr (Or.inl rfl))
        · exact Or.inr (Or.inr (Or.inr (Or.inl rfl)))
        · exact Or.inr (Or.inr (Or.inr (Or.inr rfl)))
      have hN : NumR (hD hc (B + 38) w) (hI hc (B + 39) w) (hD hr (B + 193) (100 + w)) := by
        have := hm.1.2.2.2.2.2.2.2.2 w (by omega)
        rw [show 164 * 0 + 100 + w = 100 + w by omega] at this
        exact this
      have T5 := st_185 S
      have f1 := row_fetch (h := hc) (p := B + 185) (word_row S p1) T5 (show w < 64 by omega) (by decide) hN.1
      obtain ⟨v, o, s1, s2⟩ := n_setKind (h := numW hc (B + 185) (hD hc (B + 38) w) (hI hc (B + 39) w)) T5 (nI n) hn5
      rw [numW_W] at s1
      have k1 := n_kind (h := numW hc (B + 185) (hD hc (B + 38) w) (hI hc (B + 39) w)) (x := hD hr (B + 193) (100 + w)) T5 (by rw [numW_d, numW_i]; exact hN)
      have kp := row_keep (h := numW hc (B + 185) v o) (p := B + 185) (word_row S p1) T5 (show w < 64 by omega) (by decide) (by rw [numW_i]; exact s2.1)
      rw [numW_d, numW_i] at kp
      have ei : (100 + nI w : Int32) = nI (100 + w) := nI_add 100 w
      refine ⟨pX13_kindOf (hD hr (B + 193) (100 + w)), sI (sI (sD (numW hc (B + 185) v o) (B + 37 + 1) w v) (B + 37 + 2) w o) B 19 0, sD (sI (sI hr (B + 187) 1 0) (B + 187) 0 0) (B + 193) (100 + w) (pX13_strangeOf (nI n)), ?_, ?_, H.num (W := [0, 38, 39, 185]) (fun x z1 z2 => ?_) (fun x z1 z2 => ?_) rfl rfl rfl (fun i hi => ?_) (fun i hi => ?_) (fun k hk => ?_) ?_ ?_ ?_⟩
      · show pX12_strange g hc B (nI w) (nI n) = _
        have r17 : ∀ h : CT, hR h = hR hc → hR h B 17 = some (B + 185) := fun h e => by rw [e]; exact pc_0_17 p1
        simp only [pX12_strange, w_tg (st_0 S), eW, if_neg e', if_neg q', w_lt, pc_0_4 p1, w_nn, w_tg (st_13 S), pc_13_3 p1, pc_0_17 p1, w_tg (st_37 S)]
        rw [f1, w_bd]
        rw [show hR (numW hc (B + 185) (hD hc (B + 37 + 1) w) (hI hc (B + 37 + 2) w)) B 17 = some (B + 185) from pc_0_17 p1, w_nn, w_tg T5, show pX4_kind g (numW hc (B + 185) (hD hc (B + 37 + 1) w) (hI hc (B + 37 + 2) w)) (B + 185) = some (pX13_kindOf (hD hr (B + 193) (100 + w))) from k1, w_bd, w_nn, w_tg T5, show pX4_setKind g (numW hc (B + 185) (hD hc (B + 37 + 1) w) (hI hc (B + 37 + 2) w)) (B + 185) (nI n) = some (numW hc (B + 185) v o) from s1, w_bd, show hR (numW hc (B + 185) v o) B 4 = some (B + 13) from pc_0_4 p1, w_nn, w_tg (st_13 S), show hR (numW hc (B + 185) v o) (B + 13) 3 = some (B + 37) from pc_13_3 p1, show hR (numW hc (B + 185) v o) B 17 = some (B + 185) from pc_0_17 p1, w_nn, w_tg (st_37 S), w_nn, kp, w_bd, k_answer S, w_bd2]
      · show pX13_strange g hr (B + 187) (nI w) (nI n) = _
        simp only [pX13_strange, w_tg (st_187 S), w_lt, pX13_isWordAt, i63, if_neg e', ik, if_neg q']
        rw [show hR (sI (sI hr (B + 187) 1 0) (B + 187) 0 0) (B + 187) 20 = some (B + 193) from pr_187_20 p2, w_nn, w_tg (st_193 S), sl_193 S, ei, w_ix (show 100 + w < 984 by omega) (by decide), w_nn, w_tg (st_193 S), sl_193 S, w_ix (show 100 + w < 984 by omega) (by decide), nI_clamp (by omega)]
        rfl
      · exact ((((Eqa.rf hc x).num (z2 185 (by simp))).sD (z2 38 (by simp))).sI (z2 39 (by simp))).sI (z2 0 (by simp))
      · exact (((Eqa.rf hr x).sI (z2 187 (by simp))).sI (z2 187 (by simp))).sD (z2 193 (by simp))
      · rw [hI_sD, hI_sI, if_neg (by omega), hI_sI, if_neg (by omega)]
      · rw [hD_sD, if_pos rfl, ud_n (by omega)]; rfl
      · rw [hI_sI, if_pos rfl, ud_n (by omega), hI_sI, if_neg (by omega), hI_sD, numW_I _ _ _ _ (by omega)]
      · obtain ⟨q1, q2, q3, q4, q5, q6, q7, q8, q9⟩ := (H.stat 0 0).2.2.2.1
        have z : ∀ x, x ≠ B + 185 → x ≠ B + 39 → hI (sI (sI (sD (numW hc (B + 185) v o) (B + 37 + 1) w v) (B + 37 + 2) w o) B 19 0) x = hI (sI hc B 19 0) x := fun x x1 x2 => by
          rw [hI_sI, hI_sI (h := hc)]
          have : ∀ y, y ≠ B + 185 → y ≠ B + 39 → hI (sI (sD (numW hc (B + 185) v o) (B + 37 + 1) w v) (B + 37 + 2) w o) y = hI hc y := fun y y1 y2 => by rw [hI_sI, if_neg (by omega), hI_sD, numW_I _ _ _ _ y1]
          rw [this x x1 x2, this B (by omega) (by omega)]
        unfold ObjR
        rw [z B (by omega) (by omega), z (B + 130) (by omega) (by omega), z (B + 11) (by omega) (by omega)]
        exact ⟨q1, q2, q3, q4, q5, q6, q7, q8, q9⟩
      · have hm1 := hm.1
        refine MacD.mem (a := w) (w := v) (p := o) (y := pX13_strangeOf (nI n)) (vv := hD hr (B + 193)) (hc := hc) ?_ (by omega) s2 (fun j hj => ⟨?_, ?_⟩) ?_ ?_ (fun i => ?_)
        · rw [hI_sD, show hI (sI (sI hr (B + 187) 1 0) (B + 187) 0 0) (B + 192) = hI hr (B + 192) from by rw [hI_sI, if_neg (by omega), hI_sI, if_neg (by omega)]]
          exact hm1
        · rw [hI_sI, if_neg (by omega), hI_sI, if_neg (by omega), hI_sD, numW_I _ _ _ _ (by omega)]
        · rw [hD_sI, hD_sI, hD_sD, if_neg (by omega), numW_D _ _ _ _ (by omega)]
        · rw [hD_sI, hD_sI, hD_sD, if_pos rfl, numW_D _ _ _ _ (by omega)]
        · rw [hI_sI, if_neg (by omega), hI_sI, if_pos rfl, hI_sD, numW_I _ _ _ _ (by omega)]
        · rw [hD_sD, if_pos rfl]
          unfold ud
          rw [show 0 + 100 + w = 100 + w by omega]
          rfl
      · have z : ∀ x, x ≠ B → x ≠ B + 185 → x ≠ B + 39 → hI (sI (sI (sD (numW hc (B + 185) v o) (B + 37 + 1) w v) (B + 37 + 2) w o) B 19 0) x = hI hc x := fun x x0 x1 x2 => by
          rw [hI_sI, if_neg x0, hI_sI, if_neg (by omega), hI_sD, numW_I _ _ _ _ x1]
        obtain ⟨s1', s2', s3', s4', s5', s6'⟩ := H.2.2.2.2.2.2.2.2.2.2
        refine ⟨?_, ?_, ?_, ?_, ?_, ?_⟩
        · rw [z _ (by omega) (by omega) (by omega)]; exact s1'
        · rw [z _ (by omega) (by omega) (by omega)]; exact s2'
        · rw [z _ (by omega) (by omega) (by omega)]; exact s3'
        · rw [z _ (by omega) (by omega) (by omega)]; exact s4'
        · rw [hI_sI, if_neg (by omega), hI_sI, if_neg (by omega), hI_sD, numW_i]; exact s2.1
        · rw [z _ (by omega) (by omega) (by omega)]; exact s6'
end MEM
