/-! MARKS: the calls -/
def Wm (q : Nat) : List Nat := 0 :: (List.range 27).map (fun j => q + j)
theorem Wm_in {q w : Nat} (h : w ∈ Wm q) : w = 0 ∨ (q ≤ w ∧ w ≤ q + 26) := by
  rcases List.mem_cons.mp h with h | h
  · exact Or.inl h
  · obtain ⟨j, hj, rfl⟩ := List.mem_map.mp h
    have := List.mem_range.mp hj
    exact Or.inr ⟨by omega, by omega⟩
theorem Wm_of {q w : Nat} (h1 : q ≤ w) (h2 : w ≤ q + 26) : w ∈ Wm q := List.mem_cons_of_mem _ (List.mem_map.mpr ⟨w - q, List.mem_range.mpr (by omega), by omega⟩)
theorem Wm_all {q : Nat} {f : Nat → Bool} (h : ∀ w, (w = 0 ∨ (q ≤ w ∧ w ≤ q + 26)) → f w = true) : (Wm q).all f = true := List.all_eq_true.mpr fun w hw => h w (Wm_in hw)
section MARK2
variable {B : Nat} {E : EC} {op : Nat → Nat} {g : MT} {hc hr hc' hr' : CT}
theorem marks_at (S : Sh B g) (p : PtC B (hR hc)) {n : Nat} (hn : n < 3) : hR hc (B + 42) n = some (B + (43 + 29 * n)) ∧ MachA g (hR hc) (B + (43 + 29 * n)) ∧ okW (Wm (43 + 29 * n)) = true := by
  have : n = 0 ∨ n = 1 ∨ n = 2 := by omega
  rcases this with rfl | rfl | rfl
  · exact ⟨pc_42_0 p, machA_43 S p, by decide +kernel⟩
  · exact ⟨pc_42_1 p, machA_72 S p, by decide +kernel⟩
  · exact ⟨pc_42_2 p, machA_101 S p, by decide +kernel⟩
theorem PtC.same {r r' : Nat → Nat → Option Nat} (p : PtC B r) (e : ∀ x k, (∀ q ∈ [13, 43, 72, 101, 145], ¬ (x = B + q ∧ k = 8)) → r' x k = r x k) : PtC B r' := fun q hq => by
  rw [e]
  · exact p q hq
  · intro w hw z
    have key : ∀ q ∈ spC, ∀ w ∈ [13, 43, 72, 101, 145], ¬ (q.1 = w ∧ q.2.1 = 8) := by decide +kernel
    exact key q hq w hw ⟨by omega, z.2⟩
theorem C_mark : K_mark B E op := by
  intro g hc hr H
  obtain ⟨S, p1, p2, r1, r2, r3, r4, r5, r6, r7, r8⟩ := id H
  obtain ⟨n, hn, tn, mk⟩ := r6
  obtain ⟨q1, q2, q3, q4, q5, q6, q7, q8, q9⟩ := r1
  have tn' : hI (sI (sI hr (B + 187) 1 0) (B + 187) 0 0) (B + 187) 21 = nI n := by rw [hI_sI, if_pos rfl, ud_n (by decide), hI_sI, if_pos rfl, ud_n (by decide), ← q3, tn]
  by_cases h3 : n = 3
  · subst h3
    have e0 : pX12_within (nI 3) 0 2 = 0 := by decide
    refine ⟨-1, _, _, ?_, ?_, H.stat 7 0⟩
    · simp only [pX12_mark, w_tg (st_0 S), tn, if_pos e0, k_refuse S, w_bd2]
    · simp only [pX13_mark, w_tg (st_187 S), w_lt, tn', if_pos (show nI 3 = 3 by decide), m_refuse S, w_bd2, sI_sI]
  · have hn3 : n < 3 := by omega
    obtain ⟨a1, a2, a3⟩ := marks_at S p1 hn3
    have e0 : ¬ pX12_within (nI n) 0 2 = 0 := fun z => no_w (n := 2) (j := n) z (by omega) (by decide) rfl
    obtain ⟨h1, c1, c2, c3, c4, c5, c6, c7, c8⟩ := mach_copy a2 (machA_13 S p1) (by omega) r5.1.bits
    obtain ⟨h2, d1, d2, d3, d4, d5, d6⟩ := m_copy (h := sI (sI (sI hr (B + 187) 1 0) (B + 187) 0 0) (B + 187) 21 (nI (n + 1))) (s := 0) (t := n + 1) S p2 (by omega) (by omega) (by omega)
    have hB : hI h1 B = hI hc B := (c2 B (by omega)).1
    have e192 : hI (sI (sI (sI hr (B + 187) 1 0) (B + 187) 0 0) (B + 187) 21 (nI (n + 1))) (B + 192) = hI hr (B + 192) := by rw [hI_sI, if_neg (by omega), hI_sI, if_neg (by omega), hI_sI, if_neg (by omega)]
    rw [e192] at d3 d4
    have d5' : ∀ i, i < 164 → hD h2 (B + 193) (164 * (n + 1) + i) = hD hr (B + 193) (164 * 0 + i) := d5
    have d6' : ∀ i, (i < 164 * (n + 1) ∨ 164 * (n + 1) + 164 ≤ i) → hD h2 (B + 193) i = hD hr (B + 193) i := d6
    have o1 : OfC B (Wm (43 + 29 * n)) hc (sI (sI h1 B 6 (nI (n + 1))) B 19 0) := fun a z1 z2 => by
      have n0 : a ≠ B := z2 0 (by simp [Wm])
      refine ((c2 a ?_).sI n0).sI n0
      refine Classical.byContradiction fun z => ?_
      exact z2 (a - B) (Wm_of (by omega) (by omega)) (by omega)
    have o2 : OfR B [187, 192, 193] hr h2 := fun a z1 z2 => by
      have n0 : a ≠ B + 187 := z2 187 (by simp)
      exact ((((Eqa.rf hr a).sI n0).sI n0).sI n0).tr (d2.2 a (z2 192 (by simp)) (z2 193 (by simp)))
    have fB : ∀ k, k ≠ 6 → k ≠ 19 → hI (sI (sI h1 B 6 (nI (n + 1))) B 19 0) B k = hI hc B k := fun k k1 k2 => by rw [hI_sI, if_pos rfl, ud_n k2, hI_sI, if_pos rfl, ud_n k1, hB]
    have fM : ∀ k, k ≠ 0 → k ≠ 1 → k ≠ 21 → hI h2 (B + 187) k = hI hr (B + 187) k := fun k k0 k1 k2 => by
      rw [(d2.2 (B + 187) (by omega) (by omega)).1, hI_sI, if_pos rfl, ud_n k2, hI_sI, if_pos rfl, ud_n k0, hI_sI, if_pos rfl, ud_n k1]
    have f6 : hI (sI (sI h1 B 6 (nI (n + 1))) B 19 0) B 6 = nI (n + 1) := by rw [hI_sI, if_pos rfl, ud_n (by decide), hI_sI, if_pos rfl, ud_s]
    have f21 : hI h2 (B + 187) 21 = nI (n + 1) := by rw [(d2.2 (B + 187) (by omega) (by omega)).1, hI_sI, if_pos rfl, ud_s]
    have f0 : hI h2 (B + 187) 0 = 0 := by rw [(d2.2 (B + 187) (by omega) (by omega)).1, hI_sI, if_pos rfl, ud_n (by decide), hI_sI, if_pos rfl, ud_s]
    have oth : ∀ j, j ≠ 0 → (j < 43 + 29 * n ∨ 69 + 29 * n < j) → j < 187 → Eqa hc (sI (sI h1 B 6 (nI (n + 1))) B 19 0) (B + j) := fun j j0 j1 j2 => o1.at j j2 (fun hm => by have := Wm_in hm; omega)
    have eR : ∀ x k, ¬ (x = B + (43 + 29 * n) ∧ k = 8) → hR (sI (sI h1 B 6 (nI (n + 1))) B 19 0) x k = hR hc x k := c3
    refine ⟨nI (n + 1), sI (sI h1 B 6 (nI (n + 1))) B 19 0, h2, ?_, ?_, S, p1.same fun x k hx => eR x k ?_, ?_, ?_, r2.keep o1 (fun hm => by have := Wm_in hm; omega), r3.keep o1 o2 (Wm_all fun w hw => ?_) rfl, r4.keep o1 o2 (fun hm => by have := Wm_in hm; omega) (by simp) (fB 2 (by decide) (by decide)), ?_, ⟨n + 1, by omega, f6, fun i hi => ?_⟩, r7.keep o1 o2 (Wm_all fun w hw => ?_) rfl (fB 9 (by decide) (by decide)) (fB 10 (by decide) (by decide)), r8.same fun m hm => (oth m (by omega) (by omega) (by omega)).1⟩
    · show pX12_mark g hc B = _
      simp only [pX12_mark, w_tg (st_0 S), tn, if_neg e0, w_lt, pc_0_5 p1, w_nn, w_tg (st_42 S), sl_42 S, w_ix hn3 (show 3 < 2 ^ 31 by decide), nI_clamp (show n < 2 ^ 31 by omega), a1, pc_0_4 p1, w_tg a2.1, c1, w_bd, hB, nI_1, k_answer S, w_bd2]
      rw [show hI (sI h1 B 6 (nI (n + 1))) B 6 = nI (n + 1) from by rw [hI_sI, if_pos rfl, ud_s]]
    · show pX13_mark g hr (B + 187) = _
      have ne3 : ¬ nI n = 3 := fun z => h3 ((nI_eq (b := 3) (by omega) (by decide)).mp z)
      simp only [pX13_mark, w_tg (st_187 S), w_lt, tn', if_neg ne3, nI_1]
      rw [show hI (sI (sI (sI hr (B + 187) 1 0) (B + 187) 0 0) (B + 187) 21 (nI (n + 1))) (B + 187) 21 = nI (n + 1) from by rw [hI_sI, if_pos rfl, ud_s]]
      rw [show pX13_copy g (sI (sI (sI hr (B + 187) 1 0) (B + 187) 0 0) (B + 187) 21 (nI (n + 1))) (B + 187) 0 (nI (n + 1)) = some h2 from d1, w_bd, f21]
    · intro z
      have : n = 0 ∨ n = 1 ∨ n = 2 := by omega
      rcases this with rfl | rfl | rfl
      · exact hx 43 (by simp) z
      · exact hx 72 (by simp) z
      · exact hx 101 (by simp) z
    · rw [d2.1]; exact p2
    · unfold ObjR
      rw [fB 2 (by decide) (by decide), fB 9 (by decide) (by decide), fB 10 (by decide) (by decide), f6, f21, f0, fM 8 (by decide) (by decide) (by decide), fM 41 (by decide) (by decide) (by decide), fM 22 (by decide) (by decide) (by decide), fM 3 (by decide) (by decide) (by decide), fM 10 (by decide) (by decide) (by decide), fM 11 (by decide) (by decide) (by decide), (oth 130 (by decide) (by omega) (by decide)).1, (oth 130 (by decide) (by omega) (by decide)).2.1, (oth 11 (by decide) (by omega) (by decide)).1, (d2.2 (B + 187) (by omega) (by omega)).2.1]
      exact ⟨by rw [hI_sI, if_pos rfl, ud_s], q2, rfl, q4, q5, q6, q7, q8, q9⟩
    · simp only [Bool.or_eq_true, decide_eq_true_eq]; omega
    · exact r5.keep2 S o1 a3 (by omega) (Wm_all fun w hw => by simp only [Bool.or_eq_true, decide_eq_true_eq]; omega) (fun j j1 j2 => d4 j (by omega)) (fun j j1 j2 => d6' j (by omega))
    · by_cases e : i = n
      · subst e
        obtain ⟨r5a, p, π, m1, mp, m2, m3, m4⟩ := r5
        have z : ∀ x, x ≠ B → hI (sI (sI h1 B 6 (nI (i + 1))) B 19 0) x = hI h1 x := fun x hx => by rw [hI_sI, if_neg hx, hI_sI, if_neg hx]
        refine ⟨r5a.copy ?_ (fun r hr6 => ?_) (fun j hj => ?_) (fun j hj => ?_) (fun j hj => ?_) (fun j hj => ?_), p, π, c4.trans m1, mp, m2, m3.keep S o1 a3 mp, m4.copy m2.1 fun j hj => ?_⟩
        · rw [z _ (by omega)]; exact c5
        · rw [z _ (by omega), z _ (by omega)]; exact c6 r hr6
        · rw [z _ (by omega)]; exact c7 j hj
        · rw [z _ (by omega)]; exact c8 j hj
        · exact d3 j hj
        · exact d5' j hj
        · exact d3 j hj
      · exact (mk i (by omega)).keep2 S o1 a3 (by omega) (Wm_all fun w hw => by simp only [Bool.or_eq_true, decide_eq_true_eq]; omega) (fun j j1 j2 => d4 j (by omega)) (fun j j1 j2 => d6' j (by omega))
    · simp only [Bool.or_eq_true, decide_eq_true_eq]; omega
theorem C_back : K_back B E op := by
  intro g hc hr H
  obtain ⟨S, p1, p2, r1, r2, r3, r4, r5, r6, r7, r8⟩ := id H
  obtain ⟨n, hn, tn, mk⟩ := r6
  obtain ⟨q1, q2, q3, q4, q5, q6, q7, q8, q9⟩ := r1
  have tn' : hI (sI (sI hr (B + 187) 1 0) (B + 187) 0 0) (B + 187) 21 = nI n := by rw [hI_sI, if_pos rfl, ud_n (by decide), hI_sI, if_pos rfl, ud_n (by decide), ← q3, tn]
  by_cases h3 : n = 0
  · subst h3
    have e0 : pX12_within (nI 0) 1 3 = 0 := by decide
    refine ⟨-1, _, _, ?_, ?_, H.stat 8 0⟩
    · simp only [pX12_back, w_tg (st_0 S), tn, if_pos e0, k_refuse S, w_bd2]
    · simp only [pX13_back, w_tg (st_187 S), w_lt, tn', if_pos (show nI 0 = 0 by decide), m_refuse S, w_bd2, sI_sI]
  · obtain ⟨m, rfl⟩ : ∃ m, n = m + 1 := ⟨n - 1, by omega⟩
    have hm3 : m < 3 := by omega
    obtain ⟨a1, a2, a3⟩ := marks_at S p1 hm3
    have w13 : okW (Wm 13) = true := by decide +kernel
    have e0 : ¬ pX12_within (nI (m + 1)) 1 3 = 0 := by
      have : m = 0 ∨ m = 1 ∨ m = 2 := by omega
      rcases this with rfl | rfl | rfl <;> decide
    have hmk := mk m (by omega)
    have em : (nI (m + 1) - 1 : Int32) = nI m := pk_sub (a := m + 1) (b := 1) (by omega)
    have hbits : BitsM (sI hc B 6 (nI m)) (B + (43 + 29 * m)) := by
      have hb := hmk.1.bits
      have z : ∀ x, x ≠ B → hI (sI hc B 6 (nI m)) x = hI hc x := fun x hx => by rw [hI_sI, if_neg hx]
      refine ⟨fun r hr6 => ?_, fun r hr6 i hi => ?_, fun i hi => ?_, fun i hi => ?_⟩
      · rw [z _ (by omega)]; exact hb.1 r hr6
      · rw [z _ (by omega)]; exact hb.2.1 r hr6 i hi
      · rw [z _ (by omega)]; exact hb.2.2.1 i hi
      · rw [z _ (by omega)]; exact hb.2.2.2 i hi
    obtain ⟨h1, c1, c2, c3, c4, c5, c6, c7, c8⟩ := mach_copy (h := sI hc B 6 (nI m)) (a := B + 13) (b := B + (43 + 29 * m)) (machA_13 S p1) a2 (by omega) hbits
    obtain ⟨h2, d1, d2, d3, d4, d5, d6⟩ := m_copy (h := sI (sI hr (B + 187) 1 0) (B + 187) 0 0) (s := m + 1) (t := 0) S p2 (by omega) (by omega) (by omega)
    have z6 : ∀ x, x ≠ B → hI (sI hc B 6 (nI m)) x = hI hc x := fun x hx => by rw [hI_sI, if_neg hx]
    have hB : hI h1 B = ud (hI hc B) 6 (nI m) := by rw [(c2 B (by omega)).1, hI_sI, if_pos rfl]
    have e192 : hI (sI (sI hr (B + 187) 1 0) (B + 187) 0 0) (B + 192) = hI hr (B + 192) := by rw [hI_sI, if_neg (by omega), hI_sI, if_neg (by omega)]
    rw [e192] at d3 d4
    have d5' : ∀ i, i < 164 → hD h2 (B + 193) (164 * 0 + i) = hD hr (B + 193) (164 * (m + 1) + i) := d5
    have d6' : ∀ i, (i < 164 * 0 ∨ 164 * 0 + 164 ≤ i) → hD h2 (B + 193) i = hD hr (B + 193) i := d6
    have hM : hI h2 (B + 187) = hI (sI (sI hr (B + 187) 1 0) (B + 187) 0 0) (B + 187) := (d2.2 (B + 187) (by omega) (by omega)).1
    have o1 : OfC B (Wm 13) hc (sI (sI h1 B 10 0) B 19 0) := fun a z1 z2 => by
      have n0 : a ≠ B := z2 0 (by simp [Wm])
      refine ((((Eqa.rf hc a).sI n0).tr (c2 a ?_)).sI n0).sI n0
      refine Classical.byContradiction fun z => ?_
      exact z2 (a - B) (Wm_of (by omega) (by omega)) (by omega)
    have o2 : OfR B [187, 192, 193] hr (sI (sI h2 (B + 187) 22 0) (B + 187) 21 (nI m)) := fun a z1 z2 => by
      have n0 : a ≠ B + 187 := z2 187 (by simp)
      exact (((((Eqa.rf hr a).sI n0).sI n0).tr (d2.2 a (z2 192 (by simp)) (z2 193 (by simp)))).sI n0).sI n0
    have fB : ∀ k, k ≠ 6 → k ≠ 10 → k ≠ 19 → hI (sI (sI h1 B 10 0) B 19 0) B k = hI hc B k := fun k k1 k3 k2 => by rw [hI_sI, if_pos rfl, ud_n k2, hI_sI, if_pos rfl, ud_n k3, hB, ud_n k1]
    have fM : ∀ k, k ≠ 0 → k ≠ 1 → k ≠ 21 → k ≠ 22 → hI (sI (sI h2 (B + 187) 22 0) (B + 187) 21 (nI m)) (B + 187) k = hI hr (B + 187) k := fun k k0 k1 k2 k3 => by
      rw [hI_sI, if_pos rfl, ud_n k2, hI_sI, if_pos rfl, ud_n k3, hM, hI_sI, if_pos rfl, ud_n k0, hI_sI, if_pos rfl, ud_n k1]
    have f6 : hI (sI (sI h1 B 10 0) B 19 0) B 6 = nI m := by rw [hI_sI, if_pos rfl, ud_n (by decide), hI_sI, if_pos rfl, ud_n (by decide), hB, ud_s]
    have f10 : hI (sI (sI h1 B 10 0) B 19 0) B 10 = 0 := by rw [hI_sI, if_pos rfl, ud_n (by decide), hI_sI, if_pos rfl, ud_s]
    have f21 : hI (sI (sI h2 (B + 187) 22 0) (B + 187) 21 (nI m)) (B + 187) 21 = nI m := by rw [hI_sI, if_pos rfl, ud_s]
    have f22 : hI (sI (sI h2 (B + 187) 22 0) (B + 187) 21 (nI m)) (B + 187) 22 = 0 := by rw [hI_sI, if_pos rfl, ud_n (by decide), hI_sI, if_pos rfl, ud_s]
    have f0 : hI (sI (sI h2 (B + 187) 22 0) (B + 187) 21 (nI m)) (B + 187) 0 = 0 := by rw [hI_sI, if_pos rfl, ud_n (by decide), hI_sI, if_pos rfl, ud_n (by decide), hM, hI_sI, if_pos rfl, ud_s]
    have oth : ∀ j, j ≠ 0 → (j < 13 ∨ 39 < j) → j < 187 → Eqa hc (sI (sI h1 B 10 0) B 19 0) (B + j) := fun j j0 j1 j2 => o1.at j j2 (fun hm => by have := Wm_in hm; omega)
    have x192 : hI (sI (sI h2 (B + 187) 22 0) (B + 187) 21 (nI m)) (B + 192) = hI h2 (B + 192) := by rw [hI_sI, if_neg (by omega), hI_sI, if_neg (by omega)]
    have x193 : hD (sI (sI h2 (B + 187) 22 0) (B + 187) 21 (nI m)) (B + 193) = hD h2 (B + 193) := rfl
    refine ⟨nI m, sI (sI h1 B 10 0) B 19 0, sI (sI h2 (B + 187) 22 0) (B + 187) 21 (nI m), ?_, ?_, S, p1.same fun x k hx => c3 x k (hx 13 (by simp)), ?_, ?_, r2.keep o1 (fun hm => by have := Wm_in hm; omega), r3.keep o1 o2 (Wm_all fun w hw => ?_) rfl, r4.keep o1 o2 (fun hm => by have := Wm_in hm; omega) (by simp) (fB 2 (by decide) (by decide) (by decide)), ?_, ⟨m, by omega, f6, fun i hi => ?_⟩, ?_, r8.same fun m hm => (oth m (by omega) (by omega) (by omega)).1⟩
    · show pX12_back g hc B = _
      simp only [pX12_back, w_tg (st_0 S), tn, if_neg e0, w_lt, em]
      rw [show hR (sI hc B 6 (nI m)) B 4 = some (B + 13) from pc_0_4 p1, show hR (sI hc B 6 (nI m)) B 5 = some (B + 42) from pc_0_5 p1, w_nn, w_tg (st_42 S), sl_42 S, show hI (sI hc B 6 (nI m)) B 6 = nI m from by rw [hI_sI, if_pos rfl, ud_s], w_ix hm3 (by decide), nI_clamp (by omega), show hR (sI hc B 6 (nI m)) (B + 42) m = some (B + (43 + 29 * m)) from a1, w_nn, w_tg (st_13 S), w_nn, c1, w_bd, k_answer S, w_bd2, show hI (sI h1 B 10 0) B 6 = nI m from by rw [hI_sI, if_pos rfl, ud_n (by decide), hB, ud_s]]
    · show pX13_back g hr (B + 187) = _
      have ne3 : ¬ nI (m + 1) = 0 := nI_ne0 (by omega) (by omega)
      simp only [pX13_back, w_tg (st_187 S), w_lt, tn', if_neg ne3]
      rw [show pX13_copy g (sI (sI hr (B + 187) 1 0) (B + 187) 0 0) (B + 187) (nI (m + 1)) 0 = some h2 from d1, w_bd, show hI (sI h2 (B + 187) 22 0) (B + 187) 21 = nI (m + 1) from by rw [hI_sI, if_pos rfl, ud_n (by decide), hM]; exact tn', em, show hI (sI (sI h2 (B + 187) 22 0) (B + 187) 21 (nI m)) (B + 187) 21 = nI m from f21]
    · show PtR B (hR h2)
      rw [d2.1]; exact p2
    · unfold ObjR
      rw [fB 2 (by decide) (by decide) (by decide), fB 9 (by decide) (by decide) (by decide), f6, f10, f21, f22, f0, fM 8 (by decide) (by decide) (by decide) (by decide), fM 41 (by decide) (by decide) (by decide) (by decide), fM 3 (by decide) (by decide) (by decide) (by decide), fM 10 (by decide) (by decide) (by decide) (by decide), fM 11 (by decide) (by decide) (by decide) (by decide), (oth 130 (by decide) (by omega) (by decide)).1, (oth 130 (by decide) (by omega) (by decide)).2.1, (oth 11 (by decide) (by omega) (by decide)).1, show hL (sI (sI h2 (B + 187) 22 0) (B + 187) 21 (nI m)) (B + 187) = hL hr (B + 187) from (d2.2 (B + 187) (by omega) (by omega)).2.1]
      exact ⟨by rw [hI_sI, if_pos rfl, ud_s], q2, rfl, q4, rfl, q6, q7, q8, q9⟩
    · simp only [Bool.or_eq_true, decide_eq_true_eq]; omega
    · obtain ⟨r5a, p, π, m1, mp, m2, m3, m4⟩ := hmk
      have z : ∀ x, x ≠ B → hI (sI (sI h1 B 10 0) B 19 0) x = hI h1 x := fun x hx => by rw [hI_sI, if_neg hx, hI_sI, if_neg hx]
      refine ⟨MacD.copy (hc := hc) (b := B + (43 + 29 * m)) r5a ?_ (fun r hr6 => ?_) (fun j hj => ?_) (fun j hj => ?_) (fun j hj => ?_) (fun j hj => ?_), p, π, c4.trans m1, mp, m2, m3.keep S o1 w13 mp, m4.copy m2.1 fun j hj => ?_⟩
      · rw [z _ (by omega), ← z6 (B + (43 + 29 * m)) (by omega)]; exact c5
      · rw [z _ (by omega), z _ (by omega), ← z6 (B + (43 + 29 * m) + 20) (by omega), ← z6 (B + (43 + 29 * m) + 4 + 3 * r) (by omega)]; exact c6 r hr6
      · rw [z _ (by omega), ← z6 (B + (43 + 29 * m) + 23) (by omega)]; exact c7 j hj
      · rw [z _ (by omega), ← z6 (B + (43 + 29 * m) + 26) (by omega)]; exact c8 j hj
      · rw [x192]; exact d3 j hj
      · rw [x193]; exact d5' j hj
      · rw [x192]; exact d3 j hj
    · exact (mk i (by omega)).keep2 S o1 w13 (by omega) (Wm_all fun w hw => by simp only [Bool.or_eq_true, decide_eq_true_eq]; omega) (fun j j1 j2 => by rw [x192]; exact d4 j (by omega)) (fun j j1 j2 => by rw [x193]; exact d6' j (by omega))
    · obtain ⟨l1, l2, l3, l4⟩ := r7
      have e9 := fB 9 (by decide) (by decide) (by decide)
      have x138 := (oth 138 (by decide) (by omega) (by decide)).1
      have x201 := (o2.at 201 (by decide) (by decide) (by simp)).1
      unfold LasR
      rw [e9, f10, x138, x201]
      exact ⟨l1, is01_0, l3, fun z => absurd z (by decide)⟩
end MARK2
