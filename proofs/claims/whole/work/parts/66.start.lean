/-! THE START: the walk's facts at the law's entry -/
theorem fc_inj {vm : Vm} {n1 n2 : String} {c : ClassId} (h1 : vm.findClass n1 = some c) (h2 : vm.findClass n2 = some c) : n1 = n2 := by
  obtain ⟨hc, p1, -⟩ := Array.findIdx?_eq_some_iff_getElem.mp h1
  obtain ⟨hc2, p2, -⟩ := Array.findIdx?_eq_some_iff_getElem.mp h2
  simp only [Bool.and_eq_true, beq_iff_eq] at p1 p2
  exact p1.1.1.1.symm.trans p2.1.1.1
def eC (s : State) (a k : Nat) : Value := ((s.heap[a]?).bind (fun c => c.slots[k]?)).getD .null
def eF (s : State) (q : String × String × String × FieldType) (a : Nat) : Value := (s.fieldOf? a q.1 q.2.1 q.2.2.1).getD .null
def eV (s : State) (T : Nat → Nat) (a k : Nat) : Value := if T a = 60 then eF s (opf.getD k ("", "", "", .int)) a else if T a = 61 then eF s (stf.getD k ("", "", "", .int)) a else eC s a k
def vI (v : Value) : Int32 := match v with
  | .int x => x
  | _ => 0
def vR (v : Value) : Option Nat := match v with
  | .ref a => some a
  | _ => none
def eE (s : State) (T Ln : Nat → Nat) (S : Nat → Value) : EC := (S, (fun a k => vI (eV s T a k), fun _ _ => 0, fun _ _ => 0, fun a k => (vR (eV s T a k)).filter (fun b => decide (b < s.heap.size))), (T, Ln, 0, 0))
theorem T_uni {ty ty' : FieldType} {a N N' : Nat} {f f' : Nat → Value} {A A' : Nat → Prop} {s : State} (h : va_T ty a N f A s s.heap) (h' : va_T ty' a N' f' A' s s.heap) (hN : N < 2 ^ 31) (hN' : N' < 2 ^ 31) : ty = ty' ∧ N = N' := by
  obtain ⟨c, h1, h2, -, -, h5, -, -⟩ := h
  obtain ⟨c', g1, g2, -, -, g5, -, -⟩ := h'
  cases h1.symm.trans g1
  obtain ⟨-, k, hk, comp, hc⟩ := h2
  obtain ⟨-, k', hk', comp', hc'⟩ := g2
  cases hk.symm.trans hk'
  rw [hc] at hc'
  refine ⟨by cases hc'; rfl, ?_⟩
  have e := congrArg Int32.toNatClampNeg (h5.symm.trans g5)
  rwa [Int32.toNatClampNeg_ofNat_of_lt hN, Int32.toNatClampNeg_ofNat_of_lt hN'] at e
theorem fit_slot {s : State} (hh : heapFits s = true) {a : Nat} {c : Cell} {i : Nat} {v : Value} (hc : s.heap[a]? = some c) (hv : c.slots[i]? = some v) : s.fitsSlot c.cls c.vm i v = true := by
  obtain ⟨ha, rfl⟩ := Array.getElem?_eq_some_iff.mp hc
  have h1 := (Array.all_eq_true_iff_forall_mem.mp hh) _ (Array.getElem_mem ha)
  have hi : i < (s.heap[a]).slots.size := (Array.getElem?_eq_some_iff.mp hv).1
  have h2 := (List.all_eq_true.mp h1) i (List.mem_range.mpr hi)
  simpa [hv] using h2
theorem mixO {s : State} (hh : heapFits s = true) {ty : FieldType} {a N : Nat} {f : Nat → Value} {A A1 A2 : Nat → Prop} {o1 n1 d1 o2 n2 d2 : String} {x : Int32} {r : Nat} (h : va_T ty a N f A s s.heap) (h1 : va_OF o1 n1 d1 (.int x) a A1 s s.heap) (h2 : va_OF o2 n2 d2 (.ref r) a A2 s s.heap) : False := by
  obtain ⟨c, c1, ⟨c2, kA, c3, comp, c4⟩, -⟩ := h
  obtain ⟨-, -, -, f1, cell1, -, -, g1, -, g2, -⟩ := h1
  obtain ⟨-, -, -, f2, cell2, -, -, k1, -, k2, -⟩ := h2
  cases c1.symm.trans g1
  cases c1.symm.trans k1
  have e1 := fit_slot hh c1 g2
  have e2 := fit_slot hh c1 k2
  have key : ∀ i : Nat, s.slotType? c.cls c.vm i = some ty := by
    intro i
    unfold State.slotType?
    rw [c3]
    cases hv : c.vm with
    | statics k => exact absurd hv (c2 k)
    | _ => simp [c4]
  unfold State.fitsSlot at e1 e2
  rw [key] at e1 e2
  cases ty <;> simp [fits] at e1 e2
/-- the constants lie below B -/
def EB (E : EC) (B : Nat) : Prop := (∀ i b, i ≠ 33 → E.1 i = .ref b → b < B) ∧ ∀ a k b, hR E.2.1 a k = some b → b < B
/-- what is known of the constants: the numbers of the enum's constants (op), of the texts (st), of their bytes (bt), of the static arrays; the script -/
def EOK (E : EC) (b L : Nat) (xs : Nat → Int32) (op st bt : Nat → Nat) (aL aS aO : Nat) : Prop :=
  (E.1 0 = .ref aL ∧ E.1 1 = .ref aO ∧ E.1 2 = .ref aS ∧ E.1 3 = .long (-9223372036854775808) ∧ E.1 4 = .int 1 ∧ (∀ k, k < 28 → E.1 (5 + k) = .ref (op k)) ∧ (∃ r, E.1 33 = va_rf r) ∧ ∀ i, i < 5 → E.1 (50 + i) = .ref (st i))
  ∧ (∀ k, k < 28 → gT E.2.2 (op k) = 60 ∧ hI E.2.1 (op k) 0 = Int32.ofNat k ∧ hI E.2.1 (op k) 1 = (opD k).2.2.2.2 ∧ hI E.2.1 (op k) 2 = (opD k).2.2.2.1 ∧ hR E.2.1 (op k) 3 = some (st (opD k).2.1) ∧ hR E.2.1 (op k) 4 = some (st (opD k).2.2.1))
  ∧ (∀ i, i < 45 → gT E.2.2 (st i) = 61 ∧ hR E.2.1 (st i) 0 = some (bt i) ∧ hI E.2.1 (st i) 1 = 0 ∧ gT E.2.2 (bt i) = 23 ∧ gL E.2.2 (bt i) = (stD i).2.2.2.length ∧ ∀ j, j < (stD i).2.2.2.length → hI E.2.1 (bt i) j = (stD i).2.2.2.getD j 0)
  ∧ (gT E.2.2 aL = 20 ∧ gL E.2.2 aL = 4 ∧ ∀ j, j < 4 → hI E.2.1 aL j = latV.getD j 0)
  ∧ (gT E.2.2 aS = 20 ∧ gL E.2.2 aS = 28 ∧ ∀ j, j < 28 → hI E.2.1 aS j = swV.getD j 0)
  ∧ (gT E.2.2 aO = 25 ∧ gL E.2.2 aO = 28 ∧ ∀ j, j < 28 → hR E.2.1 aO j = some (op j))
  ∧ gT E.2.2 b = 20 ∧ gL E.2.2 b = L ∧ ∀ j, j < L → hI E.2.1 b j = xs j

/-- the classes and array classes, as the tables have them -/
theorem st_K {s : State} {args : Array Value} (hts : ∀ w ∈ lw_tbl, w.before args s = true) : ∃ (D : va_G) (AK : Nat → ClassId), va_K D vwCl (tysAll AK) s := by
  have hc : ∀ c : Nat, ∃ p : ClassId × (Nat → Nat), ∀ q, vwCl[c]? = some q → u_Kn s q.1 q.2.1 q.2.2 p.1 p.2 := by
    intro c
    match c with
    | 0 =>
      obtain ⟨cC, iS, h⟩ := u_known (C := RX1) (T := TX1) (N := 5) hts u_in1 (hts _ (List.mem_of_getElem? u_mk1))
      exact ⟨(cC, iS), fun q hq => by cases hq; exact h⟩
    | 1 =>
      obtain ⟨cC, iS, h⟩ := u_known (C := RX2) (T := TX2) (N := 10) hts u_in2 (hts _ (List.mem_of_getElem? u_mk2))
      exact ⟨(cC, iS), fun q hq => by cases hq; exact h⟩
    | 2 =>
      obtain ⟨cC, iS, h⟩ := u_known (C := RX3) (T := TX3) (N := 9) hts u_in3 (hts _ (List.mem_of_getElem? u_mk3))
      exact ⟨(cC, iS), fun q hq => by cases hq; exact h⟩
    | 3 =>
      obtain ⟨cC, iS, h⟩ := u_known (C := RX4) (T := TX4) (N := 2) hts u_in4 (hts _ (List.mem_of_getElem? u_mk4))
      exact ⟨(cC, iS), fun q hq => by cases hq; exact h⟩
    | 4 =>
      obtain ⟨cC, iS, h⟩ := u_known (C := RX6) (T := TX6) (N := 12) hts u_in6 (hts _ (List.mem_of_getElem? u_mk6))
      exact ⟨(cC, iS), fun q hq => by cases hq; exact h⟩
    | 5 =>
      obtain ⟨cC, iS, h⟩ := u_known (C := RX7) (T := TX7) (N := 2) hts u_in7 (hts _ (List.mem_of_getElem? u_mk7))
      exact ⟨(cC, iS), fun q hq => by cases hq; exact h⟩
    | 6 =>
      obtain ⟨cC, iS, h⟩ := u_known (C := RX8) (T := TX8) (N := 2) hts u_in8 (hts _ (List.mem_of_getElem? u_mk8))
      exact ⟨(cC, iS), fun q hq => by cases hq; exact h⟩
    | 7 =>
      obtain ⟨cC, iS, h⟩ := u_known (C := RX9) (T := TX9) (N := 11) hts u_in9 (hts _ (List.mem_of_getElem? u_mk9))
      exact ⟨(cC, iS), fun q hq => by cases hq; exact h⟩
    | 8 =>
      obtain ⟨cC, iS, h⟩ := u_known (C := RX10) (T := TX10) (N := 17) hts u_in10 (hts _ (List.mem_of_getElem? u_mk10))
      exact ⟨(cC, iS), fun q hq => by cases hq; exact h⟩
    | 9 =>
      obtain ⟨cC, iS, h⟩ := u_known (C := RX11) (T := TX11) (N := 4) hts u_in11 (hts _ (List.mem_of_getElem? u_mk11))
      exact ⟨(cC, iS), fun q hq => by cases hq; exact h⟩
    | 10 =>
      obtain ⟨cC, iS, h⟩ := u_known (C := RX12) (T := TX12) (N := 20) hts u_in12 (hts _ (List.mem_of_getElem? u_mk12))
      exact ⟨(cC, iS), fun q hq => by cases hq; exact h⟩
    | 11 =>
      obtain ⟨cC, iS, h⟩ := u_known (C := RX13) (T := TX13) (N := 52) hts u_in13 (hts _ (List.mem_of_getElem? u_mk13))
      exact ⟨(cC, iS), fun q hq => by cases hq; exact h⟩
    | c + 12 => exact ⟨(0, fun _ => 0), fun q hq => by cases hq⟩
  have ha : ∀ t : Nat, ∃ cA : ClassId, ∀ ty, atys[t]? = some ty → ArrOfT s cA ty ∧ va_RA s cA ty := by
    have hp : ∀ ty : FieldType, (Cond.arrayClass ty).before args s = true → ∃ (cA : ClassId), ArrOfT s cA ty ∧ s.vm.findClass ("[" ++ ty.toString) = some cA := by
      intro ty h
      obtain ⟨cA, kA, comp, h1, h2, h3⟩ := Cond.arrayClass_spec h
      exact ⟨cA, fun n z => ⟨fun k q => (by cases q), kA, h2, comp, h3⟩, h1⟩
    have hq : ∀ C : String, (Cond.arrayOver (.object C)).before args s = true → ∃ (cA : ClassId), ArrOfT s cA (.object C) ∧ va_RA s cA (.object C) := by
      intro C h
      obtain ⟨comp, cA, kA, h1, h2, h3, h4, h5⟩ := Cond.arrayOver_spec h
      exact ⟨cA, fun n z => ⟨fun k q => (by cases q), kA, h3, comp, h4⟩, kA, comp, h3, h4, h1, h5⟩
    intro t
    obtain ⟨w1, w2, w3, w4, w5, w6, w7, w8, w9⟩ := ar_ok
    match t with
    | 0 => obtain ⟨cA, h1, h2⟩ := hp _ (hts _ (List.mem_of_getElem? w1)); exact ⟨cA, fun ty h => by cases h; exact ⟨h1, h2⟩⟩
    | 1 => obtain ⟨cA, h1, h2⟩ := hp _ (hts _ (List.mem_of_getElem? w2)); exact ⟨cA, fun ty h => by cases h; exact ⟨h1, h2⟩⟩
    | 2 => obtain ⟨cA, h1, h2⟩ := hp _ (hts _ (List.mem_of_getElem? w3)); exact ⟨cA, fun ty h => by cases h; exact ⟨h1, h2⟩⟩
    | 3 => obtain ⟨cA, h1, h2⟩ := hp _ (hts _ (List.mem_of_getElem? w4)); exact ⟨cA, fun ty h => by cases h; exact ⟨h1, h2⟩⟩
    | 4 => obtain ⟨cA, h1, h2⟩ := hp _ (hts _ (List.mem_of_getElem? w5)); exact ⟨cA, fun ty h => by cases h; exact ⟨h1, h2⟩⟩
    | 5 => obtain ⟨cA, h⟩ := hq _ (hts _ (List.mem_of_getElem? w6)); exact ⟨cA, fun ty e => by cases e; exact h⟩
    | 6 => obtain ⟨cA, h⟩ := hq _ (hts _ (List.mem_of_getElem? w7)); exact ⟨cA, fun ty e => by cases e; exact h⟩
    | 7 => obtain ⟨cA, h⟩ := hq _ (hts _ (List.mem_of_getElem? w8)); exact ⟨cA, fun ty e => by cases e; exact h⟩
    | 8 => obtain ⟨cA, h⟩ := hq _ (hts _ (List.mem_of_getElem? w9)); exact ⟨cA, fun ty e => by cases e; exact h⟩
    | t + 9 => exact ⟨0, fun ty h => by cases h⟩
  obtain ⟨F, hF⟩ := Classical.axiomOfChoice hc
  obtain ⟨AK, hA⟩ := Classical.axiomOfChoice ha
  refine ⟨(fun c => (F c).1, fun c => (F c).2), AK, fun c q hq => hF c q hq, fun k q hk => ?_⟩
  unfold tysAll at hk
  rw [List.getElem?_map, Option.map_eq_some_iff] at hk
  obtain ⟨t, ht, rfl⟩ := hk
  have hlt : t < 9 := List.mem_range.mp (List.mem_of_getElem? ht)
  exact hA t _ (by rw [List.getD_eq_getElem?_getD, List.getElem?_eq_getElem (by simpa using hlt)]; rfl)

