/-! THE START: the constants' record, and that it holds -/
abbrev AA (s : State) : Nat → Prop := fun a => s.heap.size ≤ a
theorem AA_ok (s : State) : ∀ a : Nat, a < s.heap.size → ¬ AA s a := fun _ h q => absurd (Nat.lt_of_lt_of_le h q) (Nat.lt_irrefl _)
theorem pm {s : State} {args : Array Value} {i : Nat} {w : Cond} (hP : ∀ w ∈ prem, w.before args s = true) (h : prem[i]? = some w) : w.before args s = true := hP w (List.mem_of_getElem? h)
def opv (st : Nat → Nat) (k j : Nat) : Value := match j with
  | 0 => .int (Int32.ofNat k)
  | 1 => .int (opD k).2.2.2.2
  | 2 => .int (opD k).2.2.2.1
  | 3 => .ref (st (opD k).2.1)
  | _ => .ref (st (opD k).2.2.1)
theorem k_strs {s : State} {args : Array Value} (hP : ∀ w ∈ prem, w.before args s = true) : ∃ st bt : Nat → Nat, ∀ i, i < 45 → (stT i).eval args s none [] s = some (.ref (st i)) ∧ va_O "java/lang/String" (st i) (AA s) s s.heap ∧ (stV i).eval args s none [] s = some (.ref (bt i)) ∧ (Term.field (stT i) "java/lang/String" "coder" "B").eval args s none [] s = some (.int 0) ∧ va_T .byte (bt i) (stD i).2.2.2.length (fun j => .int ((stD i).2.2.2.getD j 0)) (AA s) s s.heap := by
  have h0 : ∀ i : Nat, ∃ q : Nat × Nat, i < 45 → (stT i).eval args s none [] s = some (.ref q.1) ∧ va_O "java/lang/String" q.1 (AA s) s s.heap ∧ (stV i).eval args s none [] s = some (.ref q.2) ∧ (Term.field (stT i) "java/lang/String" "coder" "B").eval args s none [] s = some (.int 0) ∧ va_T .byte q.2 (stD i).2.2.2.length (fun j => .int ((stD i).2.2.2.getD j 0)) (AA s) s s.heap := by
    intro i
    by_cases hi : i < 45
    · have c0 := pm hP (w := .exactly (stT i) "java/lang/String") (st_ok i hi 0 (by decide))
      have c1 := pm hP (w := .eq (.field (stT i) "java/lang/String" "coder" "B") (.int 0)) (st_ok i hi 1 (by decide))
      have c2 := pm hP (w := .arrayOf (stV i) .byte) (st_ok i hi 2 (by decide))
      have c3 := pm hP (w := .eq (.length (stV i)) (.int (Int32.ofNat (stD i).2.2.2.length))) (st_ok i hi 3 (by decide))
      obtain ⟨a, c, cA, kA, q1, q2, q3, q4, q5, q6, -⟩ := Cond.exactly_spec (args := args) (first := s) (o := none) (s := s) (idx := []) (t := stT i) (cls := "java/lang/String") c0
      obtain ⟨t, ht, hT⟩ := va_Tof (f := fun j => .int ((stD i).2.2.2.getD j 0)) (A := AA s) (st_len i hi) c2 (va_eqt c3) (fun j hj => va_eqt (pm hP (w := stE i j) (st_el i hi j hj))) (AA_ok s)
      exact ⟨(a, t), fun _ => ⟨q1, ⟨cA, q3, q5, by rw [q6]; exact q2, AA_ok s a (Array.getElem?_eq_some_iff.mp q3).1⟩, ht, va_eqt c1, hT⟩⟩
    · exact ⟨(0, 0), fun h => absurd h hi⟩
  obtain ⟨F, hF⟩ := Classical.axiomOfChoice h0
  exact ⟨fun i => (F i).1, fun i => (F i).2, hF⟩
theorem k_ops {s : State} {args : Array Value} (hP : ∀ w ∈ prem, w.before args s = true) (st : Nat → Nat) (hst : ∀ i, i < 45 → (stT i).eval args s none [] s = some (.ref (st i))) : ∃ op : Nat → Nat, ∀ k, k < 28 → (opT k).eval args s none [] s = some (.ref (op k)) ∧ va_O RX5 (op k) (AA s) s s.heap ∧ ∀ (j : Nat) (q : String × String × String × FieldType), opf[j]? = some q → (Term.field (opT k) q.1 q.2.1 q.2.2.1).eval args s none [] s = some (opv st k j) := by
  have h0 : ∀ k : Nat, ∃ a : Nat, k < 28 → (opT k).eval args s none [] s = some (.ref a) ∧ va_O RX5 a (AA s) s s.heap ∧ ∀ (j : Nat) (q : String × String × String × FieldType), opf[j]? = some q → (Term.field (opT k) q.1 q.2.1 q.2.2.1).eval args s none [] s = some (opv st k j) := by
    intro k
    by_cases hk : k < 28
    · have c0 := pm hP (w := .exactly (opT k) RX5) (op_ok k hk 0 (by decide))
      have c1 := pm hP (w := .eq (.field (opT k) "java/lang/Enum" "ordinal" "I") (.int (Int32.ofNat k))) (op_ok k hk 1 (by decide))
      have c2 := pm hP (w := .eq (.field (opT k) RX5 "called" "Ljava/lang/String;") (stT (opD k).2.1)) (op_ok k hk 2 (by decide))
      have c3 := pm hP (w := .eq (.field (opT k) RX5 "form" "Ljava/lang/String;") (stT (opD k).2.2.1)) (op_ok k hk 3 (by decide))
      have c4 := pm hP (w := .eq (.field (opT k) RX5 "unit" "I") (.int (opD k).2.2.2.1)) (op_ok k hk 4 (by decide))
      have c5 := pm hP (w := .eq (.field (opT k) RX5 "ways" "I") (.int (opD k).2.2.2.2)) (op_ok k hk 5 (by decide))
      obtain ⟨a, c, cA, kA, q1, q2, q3, q4, q5, q6, -⟩ := Cond.exactly_spec (args := args) (first := s) (o := none) (s := s) (idx := []) (t := opT k) (cls := RX5) c0
      refine ⟨a, fun _ => ⟨q1, ⟨cA, q3, q5, by rw [q6]; exact q2, AA_ok s a (Array.getElem?_eq_some_iff.mp q3).1⟩, fun j q hq => ?_⟩⟩
      match j, hq with
      | 0, hq => cases hq; exact va_eqt c1
      | 1, hq => cases hq; exact va_eqt c5
      | 2, hq => cases hq; exact va_eqt c4
      | 3, hq => cases hq; exact va_eqv c2 (hst _ (op_cf k hk).1)
      | 4, hq => cases hq; exact va_eqv c3 (hst _ (op_cf k hk).2)
      | j + 5, hq => cases hq
    · exact ⟨0, fun h => absurd h hk⟩
  exact Classical.axiomOfChoice h0
def tgT (ops sts : List Nat) (ar : List (Nat × Nat × Nat)) (a : Nat) : Nat := if a ∈ ops then 60 else if a ∈ sts then 61 else match ar.find? (fun q => q.1 == a) with
  | some q => q.2.1
  | none => 0
def tgL (ar : List (Nat × Nat × Nat)) (a : Nat) : Nat := match ar.find? (fun q => q.1 == a) with
  | some q => q.2.2
  | none => 0
def vk1 (ty : FieldType) (v : Value) : Value := match ty with
  | .object _ => va_rf (vR v)
  | _ => .int (vI v)
def okA (s : State) (q : Nat × Nat × Nat) : Prop := ∃ (ty : FieldType) (f : Nat → Value), ((q.2.1 = 20 ∧ ty = .int) ∨ (q.2.1 = 23 ∧ ty = .byte) ∨ (q.2.1 = 25 ∧ ty = .object RX5)) ∧ q.2.2 < 2 ^ 31 ∧ va_T ty q.1 q.2.2 f (AA s) s s.heap ∧ (∀ j, j < q.2.2 → vk1 ty (f j) = f j) ∧ ∀ j, j < q.2.2 → ∀ b, f j = .ref b → b < s.heap.size
theorem okA_uni {s : State} {q q' : Nat × Nat × Nat} (h : okA s q) (h' : okA s q') (e : q'.1 = q.1) : q' = q := by
  obtain ⟨ty, f, h1, h2, h3, -⟩ := h
  obtain ⟨ty', f', g1, g2, g3, -⟩ := h'
  obtain ⟨a, b, c⟩ := q
  obtain ⟨a', b', c'⟩ := q'
  simp only at e h1 h2 h3 g1 g2 g3
  subst e
  obtain ⟨e1, e2⟩ := T_uni h3 g3 h2 g2
  subst e2; subst e1
  rcases h1 with ⟨rfl, h1⟩ | ⟨rfl, h1⟩ | ⟨rfl, h1⟩ <;> rcases g1 with ⟨rfl, g1⟩ | ⟨rfl, g1⟩ | ⟨rfl, g1⟩ <;> first | rfl | (rw [h1] at g1; cases g1)
theorem tg_ar {s : State} {ops sts : List Nat} {ar : List (Nat × Nat × Nat)} (hok : ∀ q ∈ ar, okA s q) (hno : ∀ q ∈ ar, q.1 ∉ ops ∧ q.1 ∉ sts) {q : Nat × Nat × Nat} (hq : q ∈ ar) : tgT ops sts ar q.1 = q.2.1 ∧ tgL ar q.1 = q.2.2 := by
  cases hf : ar.find? (fun z => z.1 == q.1) with
  | none => exact absurd (List.find?_eq_none.mp hf q hq) (by simp)
  | some z =>
    have h1 : z.1 = q.1 := by simpa using List.find?_some hf
    cases okA_uni (hok q hq) (hok z (List.mem_of_find?_eq_some hf)) h1
    unfold tgT tgL
    rw [if_neg (hno _ hq).1, if_neg (hno _ hq).2, hf]
    exact ⟨rfl, rfl⟩
theorem tg_inv {s : State} {ops sts : List Nat} {ar : List (Nat × Nat × Nat)} (hok : ∀ q ∈ ar, okA s q) (a : Nat) : (tgT ops sts ar a = 60 ∧ a ∈ ops) ∨ (tgT ops sts ar a = 61 ∧ a ∈ sts) ∨ tgT ops sts ar a = 0 ∨ ((tgT ops sts ar a ≠ 60 ∧ tgT ops sts ar a ≠ 61) ∧ ∃ q ∈ ar, q.1 = a ∧ tgT ops sts ar a = q.2.1 ∧ tgL ar a = q.2.2) := by
  unfold tgT
  by_cases h1 : a ∈ ops
  · rw [if_pos h1]; exact Or.inl ⟨rfl, h1⟩
  rw [if_neg h1]
  by_cases h2 : a ∈ sts
  · rw [if_pos h2]; exact Or.inr (Or.inl ⟨rfl, h2⟩)
  rw [if_neg h2]
  cases hf : ar.find? (fun z => z.1 == a) with
  | none => exact Or.inr (Or.inr (Or.inl rfl))
  | some z =>
    have hz := List.mem_of_find?_eq_some hf
    have h3 : z.1 = a := by simpa using List.find?_some hf
    obtain ⟨ty, f, g1, -⟩ := hok z hz
    refine Or.inr (Or.inr (Or.inr ⟨?_, z, hz, h3, rfl, by unfold tgL; rw [hf]⟩))
    show z.2.1 ≠ 60 ∧ z.2.1 ≠ 61
    omega
theorem eF_of {s : State} {args : Array Value} {t : Term} {a : Nat} {q : String × String × String × FieldType} {v : Value} (ht : t.eval args s none [] s = some (.ref a)) (hv : (Term.field t q.1 q.2.1 q.2.2.1).eval args s none [] s = some v) : eF s q a = v := by
  rw [va_fe ht] at hv
  unfold eF
  rw [hv]
  rfl
theorem eC_of {s : State} {ty : FieldType} {a N : Nat} {f : Nat → Value} {A : Nat → Prop} (h : va_T ty a N f A s s.heap) {j : Nat} (hj : j < N) : eC s a j = f j := by
  obtain ⟨c, c1, -, -, -, -, h6, -⟩ := h
  unfold eC
  rw [c1, Option.bind_some, h6 j hj]
  rfl
theorem T_congr {s : State} {ty : FieldType} {a N : Nat} {f f' : Nat → Value} {A : Nat → Prop} (h : va_T ty a N f A s s.heap) (e : ∀ j, j < N → f j = f' j) : va_T ty a N f' A s s.heap := by
  obtain ⟨c, c1, c2, c3, c4, c5, c6, c7⟩ := h
  exact ⟨c, c1, c2, c3, c4, c5, fun j hj => by rw [c6 j hj, e j hj], c7⟩
