/-! what holds between the two holds on where cells are made -/
section EXT
variable {B : Nat} {op : Nat → Nat} {g g' : MT} {h h' hr hr' hc hc' : CT} {p G : Nat} {π : Pg}
theorem Sh.more (S : Sh B g) (t : ∀ a, a < gN g → gT g' a = gT g a ∧ gL g' a = gL g a) (n : gN g ≤ gN g') : Sh B g' := ⟨Nat.le_trans S.1 n, fun o q hq => by
  have := stg_lt hq
  have S1 := S.1
  obtain ⟨e1, e2⟩ := t (B + o) (by omega)
  rw [e1, e2]
  exact S.2 o q hq⟩
theorem PgC.more (Z : TZ g) (e : ∀ a, a < gN g → Eqa h h' a) (t : ∀ a, a < gN g → gT g' a = gT g a ∧ gL g' a = gL g a) (H : PgC op g h p π) : PgC op g' h' p π := by
  obtain ⟨a1, a2, a3, a4, a5, a6⟩ := H
  have l1 := Z.lt (a := p) (by rw [a1]; decide)
  have l2 := Z.lt (a := p + 1) (by rw [a3]; decide)
  refine ⟨by rw [(t p l1).1]; exact a1, by rw [(e p l1).2.2.2]; exact a2, by rw [(t _ l2).1]; exact a3, by rw [(t _ l2).2]; exact a4, by rw [(e p l1).1]; exact a5, fun k hk => ?_⟩
  obtain ⟨i, b1, b2, b3, b4⟩ := a6 k hk
  have l3 := Z.lt (a := i) (by rw [b2]; decide)
  exact ⟨i, by rw [(e _ l2).2.2.2]; exact b1, by rw [(t i l3).1]; exact b2, by rw [(e i l3).2.2.2]; exact b3, fun f f1 f2 => by rw [(e i l3).1]; exact b4 f f1 f2⟩
theorem Rel.more (H : Rel B op g h hr) (Z : TZ g) (e : ∀ a, a < gN g → Eqa h h' a) (t : ∀ a, a < gN g → gT g' a = gT g a ∧ gL g' a = gL g a) (n : gN g ≤ gN g') : Rel B op g' h' hr := by
  obtain ⟨S, p1, p2, r1, r2, r3, r4, r5, r6, r7, r8⟩ := H
  have S1 := S.1
  have E : ∀ n, n < 205 → Eqa h h' (B + n) := fun n hn => e _ (by omega)
  have c0 : Eqa h h' B := e B (by omega)
  have mac : ∀ q k, q + 29 ≤ 187 → MacR B op g h q hr k → MacR B op g' h' q hr k := fun q k hq H => by
    obtain ⟨H1, pp, π, d1, hp, d2, d3, d4⟩ := H
    exact ⟨H1.keep (fun j hj => by rw [Nat.add_assoc]; exact ⟨(E _ (by omega)).1, (E _ (by omega)).2.2.1⟩) rfl rfl, pp, π, by rw [(E q (by omega)).2.2.2]; exact d1, hp, d2, d3.more Z e t, d4⟩
  refine ⟨S.more t n, fun q hq => by rw [(E q.1 (by have := spC_lt q hq; omega)).2.2.2]; exact p1 q hq, p2, ?_, fun k hk => by rw [(E 131 (by omega)).2.2.1]; exact r2 k hk, ?_, ?_, mac 13 0 (by omega) r5, ?_, ?_, ?_⟩
  · unfold ObjR
    rw [c0.1, (E 130 (by omega)).1, (E 130 (by omega)).2.1, (E 11 (by omega)).1]
    exact r1
  · intro k hk
    have e1 := (E (2 + 2 * k) (by omega)).1
    have e2 := (E (3 + 2 * k) (by omega)).2.1
    rw [← Nat.add_assoc] at e1 e2
    rw [e1, e2]
    exact r3 k hk
  · unfold TapR
    rw [c0.1, (E 10 (by omega)).1]
    exact r4
  · obtain ⟨m, m1, m2, m3⟩ := r6
    exact ⟨m, m1, by rw [c0.1]; exact m2, fun i hi => mac _ _ (by omega) (m3 i hi)⟩
  · unfold LasR
    rw [c0.1, (E 138 (by omega)).1, (E 139 (by omega)).1, (E 140 (by omega)).1]
    exact r7
  · unfold ScrR
    rw [(E 136 (by omega)).1, (E 137 (by omega)).1, (E 183 (by omega)).1, (E 184 (by omega)).1, (E 185 (by omega)).1, (E 186 (by omega)).1]
    exact r8
/-- old cells from h, new ones from h' -/
def hyb (G : Nat) (h h' : CT) : CT := (fun a => if a < G then h.1 a else h'.1 a, fun a => if a < G then h.2.1 a else h'.2.1 a, fun a => if a < G then h.2.2.1 a else h'.2.2.1 a, fun a => if a < G then h.2.2.2 a else h'.2.2.2 a)
theorem hyb_lt {a : Nat} (ha : a < G) : Eqa h (hyb G h h') a := ⟨if_pos ha, if_pos ha, if_pos ha, if_pos ha⟩
theorem hyb_ge {a : Nat} (ha : ¬ a < G) : Eqa (hyb G h h') h' a := ⟨(if_neg ha).symm, (if_neg ha).symm, (if_neg ha).symm, (if_neg ha).symm⟩
theorem Eqa.sy {a : Nat} (x : Eqa h h' a) : Eqa h' h a := ⟨x.1.symm, x.2.1.symm, x.2.2.1.symm, x.2.2.2.symm⟩
theorem spC_no : ∀ q ∈ spC, q.1 ≠ 11 ∧ ¬ (q.1 = 13 ∧ q.2.1 = 8) := by decide +kernel
/-- PROGRAM: the object, the parser, what the machine's PROGRAM is; the reference's object and rows -/
theorem Rel.prog (H : Rel B op g hc hr) (o : OfC B [0, 11, 13] hc hc') (o' : OfR B [187, 192] hr hr') (pC : ∀ x k, x ≠ B + 11 → ¬ (x = B + 13 ∧ k = 8) → hR hc' x k = hR hc x k) (pR : hR hr' = hR hr) (e2 : hI hc' B 2 = 0) (e6 : hI hc' B 6 = hI hc B 6) (nO : ObjR B hc' hr') (ec : ∀ i, 246 ≤ i → i < 984 → hI hr' (B + 192) i = hI hr (B + 192) i) (nM : MacR B op g hc' 13 hr' 0) (nL : LasR B hc' hr') : Rel B op g hc' hr' := by
  obtain ⟨S, p1, p2, r1, r2, r3, r4, r5, r6, r7, r8⟩ := H
  have d6 := o'.at 193 (by omega) (by omega) (by simp)
  refine ⟨S, fun q hq => ?_, by rw [pR]; exact p2, nO, r2.keep o (by simp), r3.keep o o' rfl rfl, ?_, nM, ?_, nL, ?_⟩
  · obtain ⟨n1, n2⟩ := spC_no q hq
    rw [pC _ _ (by omega) (fun z => n2 ⟨by omega, z.2⟩)]
    exact p1 q hq
  · have a1 := (o.at 10 (by omega) (by simp)).1
    have b1 := (o'.at 191 (by omega) (by omega) (by simp)).1
    exact ⟨⟨0, by omega, e2⟩, by rw [a1, b1]; exact r4.2.1, by rw [a1]; exact r4.2.2⟩
  · obtain ⟨m, m1, m2, m3⟩ := r6
    refine ⟨m, m1, by rw [e6]; exact m2, fun i hi => (m3 i hi).keep2 S o rfl (by omega) (List.all_eq_true.mpr fun w hw => ?_) (fun j j1 j2 => ec j (by omega) (by omega)) (fun j _ _ => by rw [d6.2.2.1])⟩
    simp only [List.mem_cons, List.not_mem_nil, or_false] at hw
    simp only [Bool.or_eq_true, decide_eq_true_eq]
    omega
  · unfold ScrR
    rw [(o.at 136 (by omega) (by simp)).1, (o.at 137 (by omega) (by simp)).1, (o.at 183 (by omega) (by simp)).1, (o.at 184 (by omega) (by simp)).1, (o.at 185 (by omega) (by simp)).1, (o.at 186 (by omega) (by simp)).1]
    exact r8
end EXT
