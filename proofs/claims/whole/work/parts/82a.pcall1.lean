/-! the simple calls -/
theorem sI_sI (h : CT) (a k : Nat) (x y : Int32) : sI (sI h a k x) a k y = sI h a k y := by
  show (up2 (up2 h.1 a k x) a k y, h.2.1, h.2.2.1, h.2.2.2) = (up2 h.1 a k y, h.2.1, h.2.2.1, h.2.2.2)
  have : up2 (up2 h.1 a k x) a k y = up2 h.1 a k y := by
    funext b j
    unfold up2
    split <;> rfl
  rw [this]
theorem wide_lt (a b : Int32) : a.toInt64 < b.toInt64 ↔ a < b := by rw [Int64.lt_iff_toInt_lt, Int32.lt_iff_toInt_lt, Int32.toInt_toInt64, Int32.toInt_toInt64]
theorem lgc (x y : Int64) : lg_cmp x y = if x.toInt < y.toInt then -1 else if x.toInt = y.toInt then 0 else 1 := by
  unfold lg_cmp
  by_cases h1 : x.toInt < y.toInt
  · have n1 : ¬ x > y := fun z => by
      have := Int64.lt_iff_toInt_lt.mp z
      omega
    have n2 : ¬ x = y := fun z => by rw [z] at h1; omega
    rw [if_neg n1, if_neg n2, if_pos h1]
  · rw [if_neg h1]
    by_cases h2 : x.toInt = y.toInt
    · have e : x = y := Int64.toInt.inj h2
      have n1 : ¬ x > y := fun z => by
        have := Int64.lt_iff_toInt_lt.mp z
        omega
      rw [if_neg n1, if_pos e, if_pos h2]
    · have n1 : x > y := Int64.lt_iff_toInt_lt.mpr (by omega)
      rw [if_pos n1, if_neg h2]
theorem lgc_lt (x y : Int64) : (lg_cmp x y < 0) = (x.toInt < y.toInt) := by
  rw [lgc]; apply propext
  split
  · exact ⟨fun _ => by assumption, fun _ => by decide⟩
  · split
    · exact ⟨fun z => absurd z (by decide), fun z => by omega⟩
    · exact ⟨fun z => absurd z (by decide), fun z => by omega⟩
theorem lgc_gt (x y : Int64) : (0 < lg_cmp x y) = (y.toInt < x.toInt) := by
  rw [lgc]; apply propext
  split
  · exact ⟨fun z => absurd z (by decide), fun z => by omega⟩
  · split
    · exact ⟨fun z => absurd z (by decide), fun z => by omega⟩
    · exact ⟨fun _ => by omega, fun _ => by decide⟩
theorem lgc_le (x y : Int64) : (lg_cmp x y ≤ 0) = (x.toInt ≤ y.toInt) := by
  rw [lgc]; apply propext
  split
  · exact ⟨fun _ => by omega, fun _ => by decide⟩
  · split
    · exact ⟨fun _ => by omega, fun _ => by decide⟩
    · exact ⟨fun z => absurd z (by decide), fun z => by omega⟩
theorem lgc_eq (x y : Int64) : (lg_cmp x y = 0) = (x = y) := by
  rw [lgc]; apply propext
  split
  · exact ⟨fun z => absurd z (by decide), fun z => by subst z; omega⟩
  · split
    · exact ⟨fun _ => Int64.toInt.inj (by assumption), fun _ => rfl⟩
    · exact ⟨fun z => absurd z (by decide), fun z => by subst z; omega⟩
theorem isIn_w (x lo hi : Int32) : pX13_isIn x.toInt64 lo.toInt64 hi.toInt64 = pX12_within x lo hi := by
  have c1 : (lg_cmp x.toInt64 lo.toInt64 < 0) = (x < lo) := by
    rw [lgc_lt, Int32.toInt_toInt64, Int32.toInt_toInt64, ← Int32.lt_iff_toInt_lt]
  have c2 : (0 < lg_cmp x.toInt64 hi.toInt64) = (hi < x) := by
    rw [lgc_gt, Int32.toInt_toInt64, Int32.toInt_toInt64, ← Int32.lt_iff_toInt_lt]
  unfold pX13_isIn pX12_within
  simp only [c1, c2]
theorem within_0 (x : Int32) (n : Nat) (hn : n < 2 ^ 31) : (pX12_within x 0 (nI n) = 0 ∧ (x < 0 ∨ nI n < x)) ∨ (pX12_within x 0 (nI n) = 1 ∧ ∃ j, j ≤ n ∧ x = nI j) := by
  unfold pX12_within
  by_cases c1 : x < 0
  · rw [if_pos c1]; exact Or.inl ⟨rfl, Or.inl c1⟩
  · rw [if_neg c1]
    by_cases c2 : nI n < x
    · rw [if_pos c2]; exact Or.inl ⟨rfl, Or.inr c2⟩
    · rw [if_neg c2]
      obtain ⟨j, hj, e⟩ := nI_of c1
      refine Or.inr ⟨rfl, j, ?_, e⟩
      subst e
      refine Nat.not_lt.mp fun z => c2 (nI_lt z hj)
section C1
variable {B : Nat} {E : EC} {op : Nat → Nat} {g : MT} {hc hr : CT}
theorem ObjR.stat (r1 : ObjR B hc hr) (v t : Int32) : ObjR B (sI hc B 19 v) (sI (sI hr (B + 187) 1 t) (B + 187) 0 v) := by
  obtain ⟨q1, q2, q3, q4, q5, q6, q7, q8, q9⟩ := r1
  refine ⟨?_, ?_, ?_, ?_, ?_, ?_, ?_, ?_, ?_⟩ <;> simp [hI_sI, hL_sI, ud, q1, q2, q3, q4, q5, q6, q7, q8, q9]
theorem Rel.stat (H : Rel B op g hc hr) (v t : Int32) : Rel B op g (sI hc B 19 v) (sI (sI hr (B + 187) 1 t) (B + 187) 0 v) := by
  refine H.obj (W := [0]) (W' := [187]) ((OfC.rf hc).sI (w := 0) (by simp)) (((OfR.rf hr).sI (w := 187) (by simp)).sI (w := 187) (by simp)) rfl rfl rfl H.2.1 H.2.2.1 ?_ ?_ ?_ ?_ (H.2.2.2.1.stat v t) ?_
  · simp [hI_sI, ud]
  · simp [hI_sI, ud]
  · simp [hI_sI, ud]
  · simp [hI_sI, ud]
  · have := H.2.2.2.2.2.2.2.2.2.2
    simpa [ScrR, hI_sI] using this
theorem Rel.thr (H : Rel B op g hc hr) (t : Int32) : Rel B op g hc (sI hr (B + 187) 1 t) := by
  refine H.obj (W := []) (W' := [187]) (OfC.rf hc) ((OfR.rf hr).sI (w := 187) (by simp)) rfl rfl rfl H.2.1 H.2.2.1 rfl rfl rfl rfl ?_ H.2.2.2.2.2.2.2.2.2.2
  obtain ⟨q1, q2, q3, q4, q5, q6, q7, q8, q9⟩ := H.2.2.2.1
  refine ⟨?_, ?_, ?_, ?_, ?_, ?_, ?_, ?_, ?_⟩ <;> simp [hI_sI, hL_sI, ud, q1, q2, q3, q4, q5, q6, q7, q8, q9]
theorem C_status : K_status B E op := by
  intro g hc hr H
  have S := H.1
  refine ⟨hI hc B 19, _, by simp only [pX12_status, w_tg (st_0 S)], ?_, H.thr 0⟩
  simp only [pX13_status, w_tg (st_187 S), w_lt]
  rw [H.2.2.2.1.1]
  simp [hI_sI, ud]
theorem C_mantissa : K_mantissa B E op := by
  intro g hc hr H
  have S := H.1
  refine ⟨hL hc (B + 130) 0, _, by simp only [pX12_mantissa, w_tg (st_0 S), w_lt, pc_0_14 H.2.1, w_nn, w_tg (st_130 S)], ?_, H.thr 0⟩
  simp only [pX13_mantissa, w_tg (st_187 S), w_lt]
  rw [H.2.2.2.1.2.2.2.2.2.1]
  rfl
theorem C_exponent : K_exponent B E op := by
  intro g hc hr H
  have S := H.1
  refine ⟨hI hc (B + 130) 1, _, by simp only [pX12_exponent, w_tg (st_0 S), w_lt, pc_0_14 H.2.1, w_nn, w_tg (st_130 S)], ?_, H.thr 0⟩
  simp only [pX13_exponent, w_tg (st_187 S), w_lt]
  rw [H.2.2.2.1.2.2.2.2.2.2.1]
  simp [hI_sI, ud]
theorem C_fault : K_fault B E op := by
  intro a g hc hr H
  have S := H.1
  obtain ⟨q1, q2, q3, q4, q5, q6, q7, q8, q9⟩ := H.2.2.2.1
  by_cases c0 : a = 0
  · refine ⟨hI hc (B + 11) 0, _, by simp only [pX12_fault, w_tg (st_0 S), if_pos c0, w_lt, pc_0_3 H.2.1, w_nn, w_tg (st_11 S)], ?_, H.thr 0⟩
    simp only [pX13_fault, w_tg (st_187 S), w_lt, if_pos c0]
    rw [q8]; simp [hI_sI, ud]
  · by_cases c1 : a = 1
    · refine ⟨hI hc (B + 11) 1, _, by simp only [pX12_fault, w_tg (st_0 S), if_neg c0, if_pos c1, w_lt, pc_0_3 H.2.1, w_nn, w_tg (st_11 S)], ?_, H.thr 0⟩
      simp only [pX13_fault, w_tg (st_187 S), w_lt, if_neg c0, if_pos c1]
      rw [q9]; simp [hI_sI, ud]
    · refine ⟨-1, _, by simp only [pX12_fault, w_tg (st_0 S), if_neg c0, if_neg c1], ?_, H.thr 0⟩
      simp only [pX13_fault, w_tg (st_187 S), w_lt, if_neg c0, if_neg c1]
theorem k_refuse (S : Sh B g) (h : CT) (w : Int32) : pX12_refuse g h B w = some (-1, sI h B 19 w) := by unfold pX12_refuse; rw [w_tg (st_0 S)]; rfl
theorem k_deny (S : Sh B g) (h : CT) (w : Int32) : pX12_deny g h B w = some (0, sI h B 19 w) := by unfold pX12_deny; rw [w_tg (st_0 S)]; rfl
theorem k_answer (S : Sh B g) (h : CT) (w : Int32) : pX12_answer g h B w = some (w, sI h B 19 0) := by unfold pX12_answer; rw [w_tg (st_0 S)]; rfl
theorem k_agree (S : Sh B g) (h : CT) : pX12_agree g h B = some (1, sI h B 19 0) := by unfold pX12_agree; rw [w_tg (st_0 S)]; rfl
theorem m_refuse (S : Sh B g) (h : CT) (w : Int32) : pX13_refuse g h (B + 187) w = some (-1, sI h (B + 187) 0 w) := by unfold pX13_refuse; rw [w_tg (st_187 S)]; rfl
theorem m_no (S : Sh B g) (h : CT) (w : Int32) : pX13_no g h (B + 187) w = some (0, sI h (B + 187) 0 w) := by unfold pX13_no; rw [w_tg (st_187 S)]; rfl
theorem bits6 (f : Nat → Int32) : ∀ r, r < 6 → pX13_has (rset f) (nI r) = if f r = 0 then 0 else 1 := by
  intro r hr
  have key : ∀ b0 b1 b2 b3 b4 b5 : Bool, ∀ r, r < 6 → pX13_has ((if b0 then (0 : Int32) else 1) ||| (if b1 then 0 else 2) ||| (if b2 then 0 else 4) ||| (if b3 then 0 else 8) ||| (if b4 then 0 else 16) ||| (if b5 then 0 else 32)) (nI r) = if [b0, b1, b2, b3, b4, b5].getD r true then 0 else 1 := by decide +kernel
  have h := key (decide (f 0 = 0)) (decide (f 1 = 0)) (decide (f 2 = 0)) (decide (f 3 = 0)) (decide (f 4 = 0)) (decide (f 5 = 0)) r hr
  simp only [decide_eq_true_eq] at h
  unfold rset
  rw [h]
  match r, hr with
  | 0, _ => simp
  | 1, _ => simp
  | 2, _ => simp
  | 3, _ => simp
  | 4, _ => simp
  | 5, _ => simp
end C1
