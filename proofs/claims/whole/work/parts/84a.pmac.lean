/-! a call that changes the machine -/
section MACK
variable {B : Nat} {op : Nat → Nat} {g : MT} {W W' : List Nat} {hc hc' hr hr' : CT}
theorem MacD.keep2 {q c v : Nat} {cc cc' : Nat → Int32} {vv vv' : Nat → UInt64} (o : ∀ j, j < 27 → hI hc' (q + j) = hI hc (q + j) ∧ hD hc' (q + j) = hD hc (q + j)) (ec : ∀ i, c ≤ i → i < c + 6 → cc' i = cc i) (ev : ∀ i, v ≤ i → i < v + 164 → vv' i = vv i) (H : MacD hc q cc vv c v) : MacD hc' q cc' vv' c v := by
  obtain ⟨h1, h2, h3, h4, h5, h6, h7, h8, h9⟩ := H
  have e0 : hI hc' q = hI hc q := (o 0 (by omega)).1
  have rw' : ∀ {n : Nat} {a : Nat → UInt64} {b : Nat → Int32} {s : Nat}, RowR n a b vv s → v ≤ s → s + n ≤ v + 164 → RowR n a b vv' s := fun R s1 s2 i hi => by
    rw [ev _ (by omega) (by omega)]; exact R i hi
  refine ⟨by rw [e0, ec c (by omega) (by omega)]; exact h1, by rw [e0, ec (c + 1) (by omega) (by omega)]; exact h2, by rw [e0, ec (c + 2) (by omega) (by omega)]; exact h3, by rw [e0, ec (c + 3) (by omega) (by omega)]; exact h4, by rw [(o 20 (by omega)).1]; exact h5, by rw [(o 20 (by omega)).1, ec (c + 4) (by omega) (by omega)]; exact h6, fun r hr => ?_, ?_, ?_⟩
  · have a1 := (o (3 + 3 * r) (by omega)).2
    have a2 := (o (4 + 3 * r) (by omega)).1
    rw [← Nat.add_assoc] at a1 a2
    rw [a1, a2]
    exact rw' (h7 r hr) (by omega) (by omega)
  · rw [(o 22 (by omega)).2, (o 23 (by omega)).1]; exact rw' h8 (by omega) (by omega)
  · rw [(o 25 (by omega)).2, (o 26 (by omega)).1]; exact rw' h9 (by omega) (by omega)
theorem PgM.keep2 {cc cc' : Nat → Int32} {b : Nat} {π : Pg} (hπ : π.1 ≤ 30) (ec : ∀ i, b + 5 ≤ i → i < b + 246 → cc' i = cc i) (H : PgM cc b π) : PgM cc' b π := by
  refine ⟨by rw [ec _ (by omega) (by omega)]; exact H.1, fun k hk => ?_⟩
  obtain ⟨a1, a2, a3, a4, a5, a6, a7, a8⟩ := H.2 k hk
  refine ⟨?_, ?_, ?_, ?_, ?_, ?_, ?_, fun z => ?_⟩
  · rw [ec _ (by omega) (by omega)]; exact a1
  · rw [ec _ (by omega) (by omega)]; exact a2
  · rw [ec _ (by omega) (by omega)]; exact a3
  · rw [ec _ (by omega) (by omega)]; exact a4
  · rw [ec _ (by omega) (by omega)]; exact a5
  · rw [ec _ (by omega) (by omega)]; exact a6
  · rw [ec _ (by omega) (by omega)]; exact a7
  · rw [ec _ (by omega) (by omega)]; exact a8 z
theorem MacP.keep2 {q c : Nat} {cc cc' : Nat → Int32} (S : Sh B g) (o : OfC B W hc hc') (hW : okW W = true) (eq : hR hc' q 8 = hR hc q 8) (ec : ∀ i, c + 5 ≤ i → i < c + 246 → cc' i = cc i) (H : MacP B op g hc q cc c) : MacP B op g hc' q cc' c := by
  obtain ⟨p, π, h1, hp, h2, h3, h4⟩ := H
  exact ⟨p, π, by rw [eq]; exact h1, hp, h2, h3.keep S o hW hp, h4.keep2 h2.1 ec⟩
theorem MacR.keep2 {q k : Nat} (S : Sh B g) (o : OfC B W hc hc') (hW : okW W = true) (hq : q + 29 ≤ 187) (hq2 : W.all (fun w => w < q || q + 28 < w) = true) (ec : ∀ i, 246 * k ≤ i → i < 246 * k + 246 → hI hr' (B + 192) i = hI hr (B + 192) i) (ev : ∀ i, 164 * k ≤ i → i < 164 * k + 164 → hD hr' (B + 193) i = hD hr (B + 193) i) (H : MacR B op g hc q hr k) : MacR B op g hc' q hr' k := by
  have key : ∀ j, j < 29 → Eqa hc hc' (B + q + j) := fun j hj => by
    rw [Nat.add_assoc]
    refine o.at _ (by omega) fun hm => ?_
    have := List.all_eq_true.mp hq2 _ hm
    simp only [Bool.or_eq_true, decide_eq_true_eq] at this
    omega
  have k0 := (key 0 (by omega)).2.2.2
  rw [Nat.add_zero] at k0
  exact ⟨H.1.keep2 (fun j hj => ⟨(key j (by omega)).1, (key j (by omega)).2.2.1⟩) (fun i i1 i2 => ec i i1 (by omega)) ev, H.2.keep2 S o hW (by rw [k0]) (fun i i1 i2 => ec i (by omega) i2)⟩
def okM (W : List Nat) : Bool := W.all fun w => w == 0 || w == 11 || (13 ≤ w && w ≤ 39) || w == 130 || (132 ≤ w && w ≤ 186)
def okN (W : List Nat) : Bool := W.all fun w => w == 187 || (192 ≤ w && w ≤ 204)
theorem okM_at (h : okM W = true) {w : Nat} (hw : w ∈ W) : w = 0 ∨ w = 11 ∨ (13 ≤ w ∧ w ≤ 39) ∨ w = 130 ∨ (132 ≤ w ∧ w ≤ 186) := by
  have := List.all_eq_true.mp h w hw
  simpa [or_assoc] using this
theorem okN_at (h : okN W = true) {w : Nat} (hw : w ∈ W) : w = 187 ∨ (192 ≤ w ∧ w ≤ 204) := by
  have := List.all_eq_true.mp h w hw
  simpa using this
theorem Rel.mac (H : Rel B op g hc hr) (o : OfC B W hc hc') (o' : OfR B W' hr hr') (hW : okM W = true) (hw2 : okW W = true) (hW' : okN W' = true) (pC : PtC B (hR hc')) (pR : PtR B (hR hr')) (ec : ∀ i, 246 ≤ i → i < 984 → hI hr' (B + 192) i = hI hr (B + 192) i) (ev : ∀ i, 164 ≤ i → i < 656 → hD hr' (B + 193) i = hD hr (B + 193) i)
    (e2 : hI hc' B 2 = hI hc B 2) (e6 : hI hc' B 6 = hI hc B 6) (nO : ObjR B hc' hr') (nM : MacR B op g hc' 13 hr' 0) (nL : LasR B hc' hr') (nS : ScrR B hc') : Rel B op g hc' hr' := by
  obtain ⟨S, p1, p2, r1, r2, r3, r4, r5, r6, r7, r8⟩ := H
  have aC : ∀ f : Nat → Bool, (∀ w, (w = 0 ∨ w = 11 ∨ (13 ≤ w ∧ w ≤ 39) ∨ w = 130 ∨ (132 ≤ w ∧ w ≤ 186)) → f w = true) → W.all f = true := fun f hf => List.all_eq_true.mpr fun w hw => hf w (okM_at hW hw)
  have aR : ∀ f : Nat → Bool, (∀ w, (w = 187 ∨ (192 ≤ w ∧ w ≤ 204)) → f w = true) → W'.all f = true := fun f hf => List.all_eq_true.mpr fun w hw => hf w (okN_at hW' hw)
  obtain ⟨n, m1, m2, m3⟩ := r6
  refine ⟨S, pC, pR, nO, r2.keep o (fun hm => by have := okM_at hW hm; omega), r3.keep o o' (aC _ fun w hw => ?_) (aR _ fun w hw => ?_), r4.keep o o' (fun hm => by have := okM_at hW hm; omega) (fun hm => by have := okN_at hW' hm; omega) e2, nM, ⟨n, m1, by rw [e6]; exact m2, fun i hi => (m3 i hi).keep2 S o hw2 (by omega) (aC _ fun w hw => ?_) (fun j j1 j2 => ec j (by omega) (by omega)) (fun j j1 j2 => ev j (by omega) (by omega))⟩, nL, nS⟩ <;> simp only [Bool.or_eq_true, decide_eq_true_eq] <;> omega
/-- in the reference's row c, in the machine's fields and marks alone -/
theorem Rel.mac0 (H : Rel B op g hc hr) {h1 h2 : CT} (b1 : ∀ x, x ≠ B + 13 → x ≠ B + 33 → Eqa hc h1 x) (b2 : ∀ x, x ≠ B + 192 → Eqa (sI (sI hr (B + 187) 1 0) (B + 187) 0 0) h2 x) (pC : hR h1 = hR hc) (pR : hR h2 = hR hr) (ec : ∀ i, 5 ≤ i → hI h2 (B + 192) i = hI hr (B + 192) i) (nM : MacD h1 (B + 13) (hI h2 (B + 192)) (hD h2 (B + 193)) 0 0) : Rel B op g (sI h1 B 19 0) h2 := by
  have H0 := H.stat 0 0
  have S := H.1
  have d0 := b1 B (by omega) (by omega)
  have d0' := b2 (B + 187) (by omega)
  have o1 : OfC B [0, 13, 33] hc (sI h1 B 19 0) := fun a z1 z2 => (b1 a (z2 13 (by simp)) (z2 33 (by simp))).sI (z2 0 (by simp))
  have o2 : OfR B [187, 192] hr h2 := fun a z1 z2 => by
    have n0 : a ≠ B + 187 := z2 187 (by simp)
    exact (((Eqa.rf hr a).sI n0).sI n0).tr (b2 a (z2 192 (by simp)))
  have e193 : hD h2 (B + 193) = hD hr (B + 193) := (b2 (B + 193) (by omega)).2.2.1
  have fld : ∀ k, k ≠ 19 → hI (sI h1 B 19 0) B k = hI hc B k := fun k hk => by rw [hI_sI, if_pos rfl, ud_n hk, d0.1]
  have oth : ∀ n, n ≠ 0 → n ≠ 13 → n ≠ 33 → hI (sI h1 B 19 0) (B + n) = hI hc (B + n) := fun n n0 n1 n2 => by rw [hI_sI, if_neg (by omega)]; exact (b1 _ (by omega) (by omega)).1
  refine H.mac o1 o2 rfl rfl rfl (by rw [show hR (sI h1 B 19 0) = hR h1 from rfl, pC]; exact H.2.1) (by rw [pR]; exact H.2.2.1) (fun i i1 _ => ec i (by omega)) (fun i _ _ => by rw [e193]) (fld 2 (by decide)) (fld 6 (by decide)) ?_ ⟨?_, ?_⟩ ?_ ?_
  · obtain ⟨q1, q2, q3, q4, q5, q6, q7, q8, q9⟩ := H0.2.2.2.1
    have k130 := b1 (B + 130) (by omega) (by omega)
    unfold ObjR
    rw [d0'.1, d0'.2.1]
    have e1 : hI (sI h1 B 19 0) B = hI (sI hc B 19 0) B := by rw [hI_sI, if_pos rfl, hI_sI, if_pos rfl, d0.1]
    have e2 : hI (sI h1 B 19 0) (B + 130) = hI (sI hc B 19 0) (B + 130) := by rw [oth 130 (by decide) (by decide) (by decide), hI_sI, if_neg (by omega)]
    have e3 : hI (sI h1 B 19 0) (B + 11) = hI (sI hc B 19 0) (B + 11) := by rw [oth 11 (by decide) (by decide) (by decide), hI_sI, if_neg (by omega)]
    have e4 : hL (sI h1 B 19 0) (B + 130) = hL (sI hc B 19 0) (B + 130) := k130.2.1
    rw [e1, e2, e3, e4]
    exact ⟨q1, q2, q3, q4, q5, q6, q7, q8, q9⟩
  · refine nM.keep2 (fun j hj => ?_) (fun _ _ _ => rfl) (fun _ _ _ => rfl)
    rw [hI_sI, if_neg (by omega)]
    exact ⟨rfl, rfl⟩
  · exact H.2.2.2.2.2.2.2.1.2.keep2 S o1 rfl (by rw [show hR (sI h1 B 19 0) = hR h1 from rfl, pC]) (fun i i1 _ => ec i (by omega))
  · exact H.2.2.2.2.2.2.2.2.2.1.keep o1 o2 rfl rfl (fld 9 (by decide)) (fld 10 (by decide))
  · exact H.2.2.2.2.2.2.2.2.2.2.same fun n hn => oth n (by omega) (by omega) (by omega)
end MACK
