/-! the parts stay where their cells stay -/
section KEEP
variable {B : Nat} {op : Nat → Nat} {g : MT} {W W' : List Nat} {hc hc' hr hr' : CT}
theorem PgC.keep {p : Nat} {π : Pg} (S : Sh B g) (o : OfC B W hc hc') (hW : okW W = true) (hp : p ≠ B + 174) (H : PgC op g hc p π) : PgC op g hc' p π := by
  obtain ⟨h1, h2, h3, h4, h5, h6⟩ := H
  have t1 := st_174 S
  have t2 := st_175 S
  have d1 : p ≠ B + 175 := fun z => by rw [z, t2] at h1; cases h1
  have d2 : p + 1 ≠ B + 174 := fun z => by rw [z, t1] at h3; cases h3
  have e1 := o.pg S hW (Or.inl h1) hp d1
  have e2 := o.pg S hW (Or.inr (Or.inl h3)) d2 (by omega)
  refine ⟨h1, by rw [e1.2.2.2]; exact h2, h3, h4, by rw [e1.1]; exact h5, fun k hk => ?_⟩
  obtain ⟨i, i1, i2, i3, i4⟩ := h6 k hk
  have e3 := o.pg S hW (Or.inr (Or.inr i2)) (fun z => by rw [z, t1] at i2; cases i2) (fun z => by rw [z, t2] at i2; cases i2)
  exact ⟨i, by rw [e2.2.2.2]; exact i1, i2, by rw [e3.2.2.2]; exact i3, fun f f1 f2 => by rw [e3.1]; exact i4 f f1 f2⟩
theorem MacD.keep {q c v : Nat} {cc cc' : Nat → Int32} {vv vv' : Nat → UInt64} (o : ∀ j, j < 27 → hI hc' (q + j) = hI hc (q + j) ∧ hD hc' (q + j) = hD hc (q + j)) (ec : cc' = cc) (ev : vv' = vv) (H : MacD hc q cc vv c v) : MacD hc' q cc' vv' c v := by
  subst ec; subst ev
  obtain ⟨h1, h2, h3, h4, h5, h6, h7, h8, h9⟩ := H
  have e0 : hI hc' q = hI hc q := (o 0 (by omega)).1
  refine ⟨by rw [e0]; exact h1, by rw [e0]; exact h2, by rw [e0]; exact h3, by rw [e0]; exact h4, by rw [(o 20 (by omega)).1]; exact h5, by rw [(o 20 (by omega)).1]; exact h6, fun r hr => ?_, ?_, ?_⟩
  · have a1 := (o (3 + 3 * r) (by omega)).2
    have a2 := (o (4 + 3 * r) (by omega)).1
    rw [← Nat.add_assoc] at a1 a2
    rw [a1, a2]
    exact h7 r hr
  · rw [(o 22 (by omega)).2, (o 23 (by omega)).1]; exact h8
  · rw [(o 25 (by omega)).2, (o 26 (by omega)).1]; exact h9
/-- a machine whose cells are not written -/
theorem MacR.keep {q k : Nat} (S : Sh B g) (o : OfC B W hc hc') (hW : okW W = true) (hq : q + 29 ≤ 187) (hq2 : W.all (fun w => w < q || q + 28 < w) = true) (ec : hI hr' (B + 192) = hI hr (B + 192)) (ev : hD hr' (B + 193) = hD hr (B + 193)) (H : MacR B op g hc q hr k) : MacR B op g hc' q hr' k := by
  obtain ⟨H1, p, π, h1, hp, h2, h3, h4⟩ := H
  have key : ∀ j, j < 29 → Eqa hc hc' (B + q + j) := fun j hj => by
    rw [Nat.add_assoc]
    refine o.at _ (by omega) fun hm => ?_
    have := List.all_eq_true.mp hq2 _ hm
    simp only [Bool.or_eq_true, decide_eq_true_eq] at this
    omega
  refine ⟨H1.keep (fun j hj => ⟨(key j (by omega)).1, (key j (by omega)).2.2.1⟩) ec ev, p, π, ?_, hp, h2, h3.keep S o hW hp, by rw [ec]; exact h4⟩
  have := (key 0 (by omega)).2.2.2
  rw [Nat.add_zero] at this
  rw [this]; exact h1
theorem PowR.keep (o : OfC B W hc hc') (hW : 131 ∉ W) (H : PowR B hc) : PowR B hc' := fun k hk => by rw [(o.at 131 (by omega) hW).2.2.1]; exact H k hk
theorem TraR.keep (o : OfC B W hc hc') (o' : OfR B W' hr hr') (hW : W.all (fun w => w < 2 || 9 < w) = true) (hW' : W'.all (fun w => w < 188 || 190 < w) = true) (H : TraR B hc hr) : TraR B hc' hr' := by
  have nw : ∀ j, 2 ≤ j → j ≤ 9 → j ∉ W := fun j j1 j2 hm => by
    have := List.all_eq_true.mp hW _ hm
    simp only [Bool.or_eq_true, decide_eq_true_eq] at this
    omega
  have nr : ∀ j, 188 ≤ j → j ≤ 190 → j ∉ W' := fun j j1 j2 hm => by
    have := List.all_eq_true.mp hW' _ hm
    simp only [Bool.or_eq_true, decide_eq_true_eq] at this
    omega
  intro t ht
  have e1 := o.at (2 + 2 * t) (by omega) (nw _ (by omega) (by omega))
  have e2 := o.at (3 + 2 * t) (by omega) (nw _ (by omega) (by omega))
  rw [← Nat.add_assoc] at e1 e2
  have f1 := o'.at 188 (by omega) (by omega) (nr _ (by omega) (by omega))
  have f2 := o'.at 189 (by omega) (by omega) (nr _ (by omega) (by omega))
  have f3 := o'.at 190 (by omega) (by omega) (nr _ (by omega) (by omega))
  rw [e1.1, f2.1, f1.1, e2.2.1, f3.2.1]
  exact H t ht
theorem TapR.keep (o : OfC B W hc hc') (o' : OfR B W' hr hr') (hW : 10 ∉ W) (hW' : 191 ∉ W') (e : hI hc' B 2 = hI hc B 2) (H : TapR B hc hr) : TapR B hc' hr' := by
  have e1 := (o.at 10 (by omega) hW).1
  have f1 := (o'.at 191 (by omega) (by omega) hW').1
  unfold TapR
  rw [e, e1, f1]
  exact H
theorem MarR.keep (S : Sh B g) (o : OfC B W hc hc') (hW : okW W = true) (hW2 : W.all (fun w => w < 43 || 129 < w) = true) (ec : hI hr' (B + 192) = hI hr (B + 192)) (ev : hD hr' (B + 193) = hD hr (B + 193)) (e : hI hc' B 6 = hI hc B 6) (H : MarR B op g hc hr) : MarR B op g hc' hr' := by
  obtain ⟨n, h1, h2, h3⟩ := H
  refine ⟨n, h1, by rw [e]; exact h2, fun i hi => (h3 i hi).keep S o hW (by omega) (List.all_eq_true.mpr fun w hw => ?_) ec ev⟩
  have := List.all_eq_true.mp hW2 _ hw
  simp only [Bool.or_eq_true, decide_eq_true_eq] at this ⊢
  omega
theorem LasR.keep (o : OfC B W hc hc') (o' : OfR B W' hr hr') (hW : W.all (fun w => w < 138 || 140 < w) = true) (hW' : W'.all (fun w => w < 201 || 203 < w) = true) (e1 : hI hc' B 9 = hI hc B 9) (e2 : hI hc' B 10 = hI hc B 10) (H : LasR B hc hr) : LasR B hc' hr' := by
  have nw : ∀ j, 138 ≤ j → j ≤ 140 → j ∉ W := fun j j1 j2 hm => by
    have := List.all_eq_true.mp hW _ hm
    simp only [Bool.or_eq_true, decide_eq_true_eq] at this
    omega
  have nr : ∀ j, 201 ≤ j → j ≤ 203 → j ∉ W' := fun j j1 j2 hm => by
    have := List.all_eq_true.mp hW' _ hm
    simp only [Bool.or_eq_true, decide_eq_true_eq] at this
    omega
  have a1 := (o.at 138 (by omega) (nw _ (by omega) (by omega))).1
  have a2 := (o.at 139 (by omega) (nw _ (by omega) (by omega))).1
  have a3 := (o.at 140 (by omega) (nw _ (by omega) (by omega))).1
  have b1 := (o'.at 201 (by omega) (by omega) (nr _ (by omega) (by omega))).1
  have b2 := (o'.at 202 (by omega) (by omega) (nr _ (by omega) (by omega))).1
  have b3 := (o'.at 203 (by omega) (by omega) (nr _ (by omega) (by omega))).1
  unfold LasR
  rw [e1, e2, a1, a2, a3, b1, b2, b3]
  exact H
/-- the fixed places are none of the reference's, and the reference's none of the class's -/
theorem stg_lt {w : Nat} {q : Nat × Nat} (h : stg[w]? = some q) : w < 205 := (List.getElem?_eq_some_iff.mp h).1
theorem eqC (o : OfC B [] hc hc') (n : Nat) (hn : n < 187) : Eqa hc hc' (B + n) := o.at n hn (by simp)
theorem eqR (o : OfR B [] hr hr') (n : Nat) (hn : 187 ≤ n) (hn2 : n < 205) : Eqa hr hr' (B + n) := o.at n hn hn2 (by simp)
theorem eqC0 (o : OfC B [] hc hc') : Eqa hc hc' B := eqC (B := B) o 0 (by omega)
theorem spC_lt : ∀ q ∈ spC, q.1 < 187 := by decide +kernel
theorem spR_in : ∀ q ∈ spR, 187 ≤ q.1 ∧ q.1 < 205 := by decide +kernel
theorem Rel.same (o : OfC B [] hc hc') (o' : OfR B [] hr hr') (H : Rel B op g hc hr) : Rel B op g hc' hr' := by
  obtain ⟨S, p1, p2, r1, r2, r3, r4, r5, r6, r7, r8⟩ := H
  have c0 := eqC0 o
  have d0 := eqR o' 187 (by omega) (by omega)
  have d5 := eqR o' 192 (by omega) (by omega)
  have d6 := eqR o' 193 (by omega) (by omega)
  refine ⟨S, fun q hq => ?_, fun q hq => ?_, ?_, r2.keep o (by simp), r3.keep o o' rfl rfl, r4.keep o o' (by simp) (by simp) (by rw [c0.1]), r5.keep S o rfl (by omega) rfl d5.1 d6.2.2.1, r6.keep S o rfl rfl d5.1 d6.2.2.1 (by rw [c0.1]), r7.keep o o' rfl rfl (by rw [c0.1]) (by rw [c0.1]), ?_⟩
  · rw [(eqC o q.1 (spC_lt q hq)).2.2.2]; exact p1 q hq
  · rw [(eqR o' q.1 (spR_in q hq).1 (spR_in q hq).2).2.2.2]; exact p2 q hq
  · unfold ObjR
    rw [c0.1, d0.1, d0.2.1, (eqC o 130 (by omega)).1, (eqC o 130 (by omega)).2.1, (eqC o 11 (by omega)).1]
    exact r1
  · unfold ScrR
    rw [(eqC o 136 (by omega)).1, (eqC o 137 (by omega)).1, (eqC o 183 (by omega)).1, (eqC o 184 (by omega)).1, (eqC o 185 (by omega)).1, (eqC o 186 (by omega)).1]
    exact r8
end KEEP
/-- one call of both: the same answer, and all holds on -/
def CallR {α : Type} (B : Nat) (op : Nat → Nat) (f k : MT → CT → Option (α × CT)) : Prop := ∀ g hc hr, Rel B op g hc hr → ∃ r hc' hr', f g hc = some (r, hc') ∧ k g hr = some (r, hr') ∧ Rel B op g hc' hr'
/-- where none of the parts is touched but the objects' own fields and scratch cells -/
def okC (W : List Nat) : Bool := W.all fun w => w == 0 || w == 11 || w == 130 || (132 ≤ w && w ≤ 137) || (145 ≤ w && w ≤ 186)
def okR (W : List Nat) : Bool := W.all fun w => w == 187 || (194 ≤ w && w ≤ 200) || w == 204
theorem okC_at {W : List Nat} (h : okC W = true) {w : Nat} (hw : w ∈ W) : w = 0 ∨ w = 11 ∨ w = 130 ∨ (132 ≤ w ∧ w ≤ 137) ∨ (145 ≤ w ∧ w ≤ 186) := by
  have := List.all_eq_true.mp h w hw
  simpa [or_assoc] using this
theorem okR_at {W : List Nat} (h : okR W = true) {w : Nat} (hw : w ∈ W) : w = 187 ∨ (194 ≤ w ∧ w ≤ 200) ∨ w = 204 := by
  have := List.all_eq_true.mp h w hw
  simpa [or_assoc] using this
theorem Rel.obj {B : Nat} {op : Nat → Nat} {g : MT} {W W' : List Nat} {hc hc' hr hr' : CT} (H : Rel B op g hc hr) (o : OfC B W hc hc') (o' : OfR B W' hr hr') (hW : okC W = true) (hw2 : okW W = true) (hW' : okR W' = true) (pC : PtC B (hR hc')) (pR : PtR B (hR hr'))
    (e2 : hI hc' B 2 = hI hc B 2) (e6 : hI hc' B 6 = hI hc B 6) (e9 : hI hc' B 9 = hI hc B 9) (e10 : hI hc' B 10 = hI hc B 10) (nO : ObjR B hc' hr') (nS : ScrR B hc') : Rel B op g hc' hr' := by
  obtain ⟨S, p1, p2, r1, r2, r3, r4, r5, r6, r7, r8⟩ := H
  have nr : ∀ j, 188 ≤ j → (j ≤ 193 ∨ (201 ≤ j ∧ j ≤ 203)) → j ∉ W' := fun j j1 j2 hm => by
    have := okR_at hW' hm
    omega
  have d5 := o'.at 192 (by omega) (by omega) (nr _ (by omega) (by omega))
  have d6 := o'.at 193 (by omega) (by omega) (nr _ (by omega) (by omega))
  have aC : ∀ f : Nat → Bool, (∀ w, (w = 0 ∨ w = 11 ∨ w = 130 ∨ (132 ≤ w ∧ w ≤ 137) ∨ (145 ≤ w ∧ w ≤ 186)) → f w = true) → W.all f = true := fun f hf => List.all_eq_true.mpr fun w hw => hf w (okC_at hW hw)
  have aR : ∀ f : Nat → Bool, (∀ w, (w = 187 ∨ (194 ≤ w ∧ w ≤ 200) ∨ w = 204) → f w = true) → W'.all f = true := fun f hf => List.all_eq_true.mpr fun w hw => hf w (okR_at hW' hw)
  refine ⟨S, pC, pR, nO, r2.keep o (fun hm => by have := okC_at hW hm; omega), r3.keep o o' (aC _ fun w hw => ?_) (aR _ fun w hw => ?_), r4.keep o o' (fun hm => by have := okC_at hW hm; omega) (nr _ (by omega) (by omega)) e2, r5.keep S o hw2 (by omega) (aC _ fun w hw => ?_) d5.1 d6.2.2.1, r6.keep S o hw2 (aC _ fun w hw => ?_) d5.1 d6.2.2.1 e6, r7.keep o o' (aC _ fun w hw => ?_) (aR _ fun w hw => ?_) e9 e10, nS⟩ <;> simp only [Bool.or_eq_true, decide_eq_true_eq] <;> omega
/-- a call that leaves the class's cells -/
def CallP {α : Type} (B : Nat) (op : Nat → Nat) (f : MT → CT → Option α) (k : MT → CT → Option (α × CT)) : Prop := ∀ g hc hr, Rel B op g hc hr → ∃ r hr', f g hc = some r ∧ k g hr = some (r, hr') ∧ Rel B op g hc hr'
/-- cells not made yet have no tag -/
def TZ (g : MT) : Prop := ∀ a, gN g ≤ a → gT g a = 0
/-- of the one that makes cells: at most 33 of them, of 400 places -/
def CallA {α : Type} (B : Nat) (op : Nat → Nat) (f : MT → CT → Option (α × MT × CT)) (k : MT → CT → Option (α × CT)) : Prop := ∀ g hc hr, Rel B op g hc hr → TZ g → ∃ r g' hc' hr', f g hc = some (r, g', hc') ∧ k g' hr = some (r, hr') ∧ Rel B op g' hc' hr' ∧ gN g ≤ gN g' ∧ gN g' ≤ gN g + 40 ∧ gU g ≤ gU g' ∧ gU g' ≤ gU g + 500 ∧ TZ g'
