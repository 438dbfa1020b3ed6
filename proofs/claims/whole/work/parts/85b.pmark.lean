/-! MARKS: mark, back -/
section MARK
variable {B : Nat} {E : EC} {op : Nat → Nat} {g : MT} {h hc hr hc' hr' : CT} {s t : Nat}
theorem m_copyD (S : Sh B g) (p2 : PtR B (hR h)) (hs : s ≤ 5) (ht : t ≤ 5) (hst : s ≠ t) : ∃ h', pX13_copy_l41 g (B + 187) (nI s) (nI t) FUEL 0 h = some h' ∧ But1 (B + 193) h h' ∧ hI h' = hI h ∧ (∀ i, i < 164 → hD h' (B + 193) (164 * t + i) = hD h (B + 193) (164 * s + i)) ∧ ∀ i, (i < 164 * t ∨ 164 * t + 164 ≤ i) → hD h' (B + 193) i = hD h (B + 193) i := by
  have := loopN (L := fun f j x => pX13_copy_l41 g (B + 187) (nI s) (nI t) f (nI j) x) (N := 164) (Inv := fun j x => But1 (B + 193) h x ∧ hI x = hI h ∧ (∀ i, i < j → hD x (B + 193) (164 * t + i) = hD h (B + 193) (164 * s + i)) ∧ ∀ i, (i < 164 * t ∨ 164 * t + 164 ≤ i) → hD x (B + 193) i = hD h (B + 193) i)
    (Post := fun x => But1 (B + 193) h x ∧ hI x = hI h ∧ (∀ i, i < 164 → hD x (B + 193) (164 * t + i) = hD h (B + 193) (164 * s + i)) ∧ ∀ i, (i < 164 * t ∨ 164 * t + 164 ≤ i) → hD x (B + 193) i = hD h (B + 193) i) (fun f j x hj H => by
    have e20 : hR x (B + 187) 20 = some (B + 193) := by rw [H.1.1]; exact pr_187_20 p2
    have es : (164 * nI s + nI j : Int32) = nI (164 * s + j) := by rw [show (164 : Int32) = nI 164 from rfl, pk_mul, nI_add]
    have et : (164 * nI t + nI j : Int32) = nI (164 * t + j) := by rw [show (164 : Int32) = nI 164 from rfl, pk_mul, nI_add]
    have hsrc : hD x (B + 193) (164 * s + j) = hD h (B + 193) (164 * s + j) := H.2.2.2 _ (by omega)
    refine ⟨sD x (B + 193) (164 * t + j) (hD h (B + 193) (164 * s + j)), ?_, H.1.stD, H.2.1, fun i hi => ?_, fun i hi => ?_⟩
    · show pX13_copy_l41 g (B + 187) (nI s) (nI t) (f + 1) (nI j) x = _
      rw [pX13_copy_l41, pX13_copy_b41, if_neg (show ¬ 164 ≤ nI j from nI_ge (b := 164) hj (by decide)), w_lt, e20, w_lt, w_nn, w_tg (st_193 S), sl_193 S, es, et, w_ix (show 164 * s + j < 984 by omega) (by decide), w_nn, w_tg (st_193 S), sl_193 S, w_ix (show 164 * t + j < 984 by omega) (by decide), w_lt, w_lt, nI_clamp (by omega), nI_clamp (by omega), hsrc, nI_1]
    · rw [hD_sD, if_pos rfl]
      by_cases e : i = j
      · rw [e, ud_s]
      · rw [ud_n (by omega)]; exact H.2.2.1 i (by omega)
    · rw [hD_sD, if_pos rfl, ud_n (by omega)]; exact H.2.2.2 i hi) (fun f x H => ⟨x, by
    show pX13_copy_l41 g (B + 187) (nI s) (nI t) (f + 1) (nI 164) x = _
    rw [pX13_copy_l41, pX13_copy_b41, if_pos (show 164 ≤ nI 164 from nI_le (a := 164) (by decide) (by decide))], H⟩) 164 0 FUEL h (by omega) (by unfold FUEL; omega) ⟨But1.rf _ h, rfl, fun i hi => by omega, fun i _ => rfl⟩
  exact this
theorem m_copy (S : Sh B g) (p2 : PtR B (hR h)) (hs : s ≤ 5) (ht : t ≤ 5) (hst : s ≠ t) : ∃ h', pX13_copy g h (B + 187) (nI s) (nI t) = some h' ∧ But2 (B + 192) (B + 193) h h' ∧ (∀ i, i < 246 → hI h' (B + 192) (246 * t + i) = hI h (B + 192) (246 * s + i)) ∧ (∀ i, (i < 246 * t ∨ 246 * t + 246 ≤ i) → hI h' (B + 192) i = hI h (B + 192) i)
    ∧ (∀ i, i < 164 → hD h' (B + 193) (164 * t + i) = hD h (B + 193) (164 * s + i)) ∧ ∀ i, (i < 164 * t ∨ 164 * t + 164 ≤ i) → hD h' (B + 193) i = hD h (B + 193) i := by
  have := loopN (L := fun f j x => pX13_copy_l2 g (B + 187) (nI s) (nI t) f (nI j) x) (N := 246) (Inv := fun j x => But1 (B + 192) h x ∧ hD x = hD h ∧ (∀ i, i < j → hI x (B + 192) (246 * t + i) = hI h (B + 192) (246 * s + i)) ∧ ∀ i, (i < 246 * t ∨ 246 * t + 246 ≤ i) → hI x (B + 192) i = hI h (B + 192) i)
    (Post := fun x => But2 (B + 192) (B + 193) h x ∧ (∀ i, i < 246 → hI x (B + 192) (246 * t + i) = hI h (B + 192) (246 * s + i)) ∧ (∀ i, (i < 246 * t ∨ 246 * t + 246 ≤ i) → hI x (B + 192) i = hI h (B + 192) i) ∧ (∀ i, i < 164 → hD x (B + 193) (164 * t + i) = hD h (B + 193) (164 * s + i)) ∧ ∀ i, (i < 164 * t ∨ 164 * t + 164 ≤ i) → hD x (B + 193) i = hD h (B + 193) i) (fun f j x hj H => by
    have e19 : hR x (B + 187) 19 = some (B + 192) := by rw [H.1.1]; exact pr_187_19 p2
    have es : (246 * nI s + nI j : Int32) = nI (246 * s + j) := by rw [show (246 : Int32) = nI 246 from rfl, pk_mul, nI_add]
    have et : (246 * nI t + nI j : Int32) = nI (246 * t + j) := by rw [show (246 : Int32) = nI 246 from rfl, pk_mul, nI_add]
    have hsrc : hI x (B + 192) (246 * s + j) = hI h (B + 192) (246 * s + j) := H.2.2.2 _ (by omega)
    refine ⟨sI x (B + 192) (246 * t + j) (hI h (B + 192) (246 * s + j)), ?_, H.1.stI, H.2.1, fun i hi => ?_, fun i hi => ?_⟩
    · show pX13_copy_l2 g (B + 187) (nI s) (nI t) (f + 1) (nI j) x = _
      rw [pX13_copy_l2, pX13_copy_b2, if_neg (show ¬ 246 ≤ nI j from nI_ge (b := 246) hj (by decide)), w_lt, e19, w_lt, w_nn, w_tg (st_192 S), sl_192 S, es, et, w_ix (show 246 * s + j < 1476 by omega) (by decide), w_nn, w_tg (st_192 S), sl_192 S, w_ix (show 246 * t + j < 1476 by omega) (by decide), w_lt, w_lt, nI_clamp (by omega), nI_clamp (by omega), hsrc, nI_1]
    · rw [hI_sI, if_pos rfl]
      by_cases e : i = j
      · rw [e, ud_s]
      · rw [ud_n (by omega)]; exact H.2.2.1 i (by omega)
    · rw [hI_sI, if_pos rfl, ud_n (by omega)]; exact H.2.2.2 i hi) (fun f x H => by
    obtain ⟨h', w1, w2, w3, w4, w5⟩ := m_copyD (h := x) S (by rw [H.1.1]; exact p2) hs ht hst
    refine ⟨h', ?_, ⟨w2.1.trans H.1.1, fun z z1 z2 => (H.1.2 z z1).tr (w2.2 z z2)⟩, fun i hi => ?_, fun i hi => ?_, fun i hi => ?_, fun i hi => ?_⟩
    · show pX13_copy_l2 g (B + 187) (nI s) (nI t) (f + 1) (nI 246) x = _
      rw [pX13_copy_l2, pX13_copy_b2, if_pos (show 246 ≤ nI 246 from nI_le (a := 246) (by decide) (by decide))]
      exact w1
    · rw [w3]; exact H.2.2.1 i hi
    · rw [w3]; exact H.2.2.2 i hi
    · rw [w4 i hi, H.2.1]
    · rw [w5 i hi, H.2.1]) 246 0 FUEL h (by omega) (by unfold FUEL; omega) ⟨But1.rf _ h, rfl, fun i hi => by omega, fun i _ => rfl⟩
  obtain ⟨h', q1, q2⟩ := this
  refine ⟨h', ?_, q2⟩
  unfold pX13_copy
  rw [w_tg (st_187 S)]
  exact q1
/-- a copy stands to a copied block as what was copied to its -/
theorem MacD.copy {a b c v c' v' : Nat} {cc cc' : Nat → Int32} {vv vv' : Nat → UInt64} (H : MacD hc b cc vv c v) (e1 : hI hc' a 4 = hI hc b 4 ∧ hI hc' a 5 = hI hc b 5 ∧ hI hc' a 6 = hI hc b 6 ∧ hI hc' a 7 = hI hc b 7)
    (e2 : ∀ r, r < 6 → hI hc' (a + 20) r = hI hc (b + 20) r ∧ ∀ i, i < 16 → hD hc' (a + 3 + 3 * r) i = hD hc (b + 3 + 3 * r) i ∧ hI hc' (a + 4 + 3 * r) i = hI hc (b + 4 + 3 * r) i)
    (e3 : ∀ i, i < 4 → hD hc' (a + 22) i = hD hc (b + 22) i ∧ hI hc' (a + 23) i = hI hc (b + 23) i) (e4 : ∀ i, i < 64 → hD hc' (a + 25) i = hD hc (b + 25) i ∧ hI hc' (a + 26) i = hI hc (b + 26) i)
    (ec : ∀ i, i < 246 → cc' (c' + i) = cc (c + i)) (ev : ∀ i, i < 164 → vv' (v' + i) = vv (v + i)) : MacD hc' a cc' vv' c' v' := by
  obtain ⟨h1, h2, h3, h4, h5, h6, h7, h8, h9⟩ := H
  have c0 := ec 0 (by omega)
  rw [Nat.add_zero, Nat.add_zero] at c0
  refine ⟨?_, ?_, ?_, ?_, fun r hr => by rw [(e2 r hr).1]; exact h5 r hr, ?_, fun r hr i hi => ?_, fun i hi => ?_, fun i hi => ?_⟩
  · rw [e1.2.1, c0]; exact h1
  · rw [e1.2.2.1, ec 1 (by omega)]; exact h2
  · rw [e1.2.2.2, ec 2 (by omega)]; exact h3
  · rw [e1.1, ec 3 (by omega)]; exact h4
  · rw [ec 4 (by omega), h6]
    unfold rset
    rw [(e2 0 (by omega)).1, (e2 1 (by omega)).1, (e2 2 (by omega)).1, (e2 3 (by omega)).1, (e2 4 (by omega)).1, (e2 5 (by omega)).1]
  · have e := ev (16 * r + i) (by omega)
    rw [← Nat.add_assoc, ← Nat.add_assoc] at e
    rw [((e2 r hr).2 i hi).1, ((e2 r hr).2 i hi).2, e]
    exact h7 r hr i hi
  · have e := ev (96 + i) (by omega)
    rw [← Nat.add_assoc, ← Nat.add_assoc] at e
    rw [(e3 i hi).1, (e3 i hi).2, e]
    exact h8 i hi
  · have e := ev (100 + i) (by omega)
    rw [← Nat.add_assoc, ← Nat.add_assoc] at e
    rw [(e4 i hi).1, (e4 i hi).2, e]
    exact h9 i hi
theorem PgM.copy {cc cc' : Nat → Int32} {b b' : Nat} {π : Pg} (hπ : π.1 ≤ 30) (ec : ∀ i, i < 246 → cc' (b' + i) = cc (b + i)) (H : PgM cc b π) : PgM cc' b' π := by
  have e : ∀ i, i < 246 → ∀ x, cc (b + i) = x → cc' (b' + i) = x := fun i hi x hx => (ec i hi).trans hx
  refine ⟨e 5 (by omega) _ H.1, fun k hk => ?_⟩
  obtain ⟨a1, a2, a3, a4, a5, a6, a7, a8⟩ := H.2 k hk
  rw [Nat.add_assoc] at a1 a2 a3 a4 a5 a6 a7
  refine ⟨?_, ?_, ?_, ?_, ?_, ?_, ?_, fun z => ?_⟩ <;> rw [Nat.add_assoc]
  · exact e _ (by omega) _ a1
  · exact e _ (by omega) _ a2
  · exact e _ (by omega) _ a3
  · exact e _ (by omega) _ a4
  · exact e _ (by omega) _ a5
  · exact e _ (by omega) _ a6
  · exact e _ (by omega) _ a7
  · have := a8 z
    rw [Nat.add_assoc] at this
    exact e _ (by omega) _ this
end MARK
