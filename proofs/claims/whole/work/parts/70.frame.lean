/-! what a function leaves as it was: outside a set of cells that is closed under references, and places of cells that it doesn't write (by their tags and types: ints, longs, doubles, references from 0, 2000, 4000, 6000 on; 1000: any place) -/
def Cl (P : Nat → Prop) (h : CT) : Prop := ∀ a k b, P a → hR h a k = some b → P b
def wr (W : List (Nat × Nat)) (t y k : Nat) : Prop := (t, 2000 * y + k) ∈ W ∨ (t, 2000 * y + 1000) ∈ W
def eqW (N : Nat → Prop) (h h' : CT) (a k : Nat) : Prop := (¬ N 0 → hI h' a k = hI h a k) ∧ (¬ N 1 → hL h' a k = hL h a k) ∧ (¬ N 2 → hD h' a k = hD h a k) ∧ (¬ N 3 → hR h' a k = hR h a k)
def FrC (P : Nat → Prop) (W : List (Nat × Nat)) (g : MT) (h h' : CT) : Prop := Cl P h' ∧ ∀ a k, eqW (fun y => P a ∧ wr W (gT g a) y k) h h' a k
def PEc (P : Nat → Prop) (E : EC) : Prop := (∀ i b, i ≠ 33 → E.1 i = .ref b → P b) ∧ ∀ a k b, hR E.2.1 a k = some b → P b
theorem eqW.rf (N : Nat → Prop) (h : CT) (a k : Nat) : eqW N h h a k := ⟨fun _ => rfl, fun _ => rfl, fun _ => rfl, fun _ => rfl⟩
theorem eqW.tr {N M K : Nat → Prop} {h h1 h2 : CT} {a k : Nat} (x : eqW N h h1 a k) (y : eqW M h1 h2 a k) (e1 : ∀ i, ¬ K i → ¬ N i) (e2 : ∀ i, ¬ K i → ¬ M i) : eqW K h h2 a k :=
  ⟨fun q => (y.1 (e2 0 q)).trans (x.1 (e1 0 q)), fun q => (y.2.1 (e2 1 q)).trans (x.2.1 (e1 1 q)), fun q => (y.2.2.1 (e2 2 q)).trans (x.2.2.1 (e1 2 q)), fun q => (y.2.2.2 (e2 3 q)).trans (x.2.2.2 (e1 3 q))⟩
theorem eqW.mono {N K : Nat → Prop} {h h1 : CT} {a k : Nat} (x : eqW N h h1 a k) (e1 : ∀ i, ¬ K i → ¬ N i) : eqW K h h1 a k := ⟨fun q => x.1 (e1 0 q), fun q => x.2.1 (e1 1 q), fun q => x.2.2.1 (e1 2 q), fun q => x.2.2.2 (e1 3 q)⟩
theorem wr.sub {W W' : List (Nat × Nat)} {t y k : Nat} (h : wr W' t y k) (hs : ∀ t ∈ W', t ∈ W) : wr W t y k := h.elim (fun q => Or.inl (hs _ q)) (fun q => Or.inr (hs _ q))
section FRC
variable {P : Nat → Prop} {W W' : List (Nat × Nat)} {g : MT} {h h0 h1 h2 : CT} {a k t : Nat}
theorem FrC.rf (hc : Cl P h) : FrC P W g h h := ⟨hc, fun a k => eqW.rf _ h a k⟩
theorem FrC.trans (F : FrC P W g h0 h1) (F2 : FrC P W' g h1 h2) (hs : ∀ t ∈ W', t ∈ W) : FrC P W g h0 h2 :=
  ⟨F2.1, fun a k => (F.2 a k).tr (F2.2 a k) (fun _ q => q) (fun _ q z => q ⟨z.1, z.2.sub hs⟩)⟩
theorem FrC.sub (F : FrC P W' g h0 h1) (hs : ∀ t ∈ W', t ∈ W) : FrC P W g h0 h1 := ⟨F.1, fun a k => (F.2 a k).mono fun _ q z => q ⟨z.1, z.2.sub hs⟩⟩
theorem FrC.sI {x : Int32} (F : FrC P W g h0 h1) (hp : P a) (ht : gT g a = t) (hw : wr W t 0 k) (e : h2 = sI h1 a k x) : FrC P W g h0 h2 := by
  subst e
  refine ⟨F.1, fun b j => (F.2 b j).tr (M := fun y => y = 0 ∧ b = a ∧ j = k) ⟨fun q => if_neg (fun z => q ⟨rfl, z⟩), fun _ => rfl, fun _ => rfl, fun _ => rfl⟩ (fun _ q => q) fun i q z => q ?_⟩
  obtain ⟨rfl, rfl, rfl⟩ := z
  exact ⟨hp, by rw [ht]; exact hw⟩
theorem FrC.sL {x : Int64} (F : FrC P W g h0 h1) (hp : P a) (ht : gT g a = t) (hw : wr W t 1 k) (e : h2 = sL h1 a k x) : FrC P W g h0 h2 := by
  subst e
  refine ⟨F.1, fun b j => (F.2 b j).tr (M := fun y => y = 1 ∧ b = a ∧ j = k) ⟨fun _ => rfl, fun q => if_neg (fun z => q ⟨rfl, z⟩), fun _ => rfl, fun _ => rfl⟩ (fun _ q => q) fun i q z => q ?_⟩
  obtain ⟨rfl, rfl, rfl⟩ := z
  exact ⟨hp, by rw [ht]; exact hw⟩
theorem FrC.sD {x : UInt64} (F : FrC P W g h0 h1) (hp : P a) (ht : gT g a = t) (hw : wr W t 2 k) (e : h2 = sD h1 a k x) : FrC P W g h0 h2 := by
  subst e
  refine ⟨F.1, fun b j => (F.2 b j).tr (M := fun y => y = 2 ∧ b = a ∧ j = k) ⟨fun _ => rfl, fun _ => rfl, fun q => if_neg (fun z => q ⟨rfl, z⟩), fun _ => rfl⟩ (fun _ q => q) fun i q z => q ?_⟩
  obtain ⟨rfl, rfl, rfl⟩ := z
  exact ⟨hp, by rw [ht]; exact hw⟩
theorem FrC.sR {x : Option Nat} (F : FrC P W g h0 h1) (hp : P a) (ht : gT g a = t) (hw : wr W t 3 k) (hx : ∀ b, x = some b → P b) (e : h2 = sR h1 a k x) : FrC P W g h0 h2 := by
  subst e
  refine ⟨fun b j c hb hc => ?_, fun b j => (F.2 b j).tr (M := fun y => y = 3 ∧ b = a ∧ j = k) ⟨fun _ => rfl, fun _ => rfl, fun _ => rfl, fun q => if_neg (fun z => q ⟨rfl, z⟩)⟩ (fun _ q => q) fun i q z => q ?_⟩
  · by_cases q : b = a ∧ j = k
    · exact hx c ((if_pos q).symm.trans hc)
    · exact F.1 b j c hb ((if_neg q).symm.trans hc)
  · obtain ⟨rfl, rfl, rfl⟩ := z
    exact ⟨hp, by rw [ht]; exact hw⟩
theorem FrC.cpL {a0 sp dp n : Nat} (F : FrC P W g h0 h1) (hp : P a) (ht : gT g a = t) (hw : (t, 3000) ∈ W) (e : h2 = cpL h1 a0 a sp dp n) : FrC P W g h0 h2 := by
  subst e
  refine ⟨F.1, fun b j => (F.2 b j).tr (M := fun y => y = 1 ∧ b = a) ⟨fun _ => rfl, fun q => if_neg (fun z => q ⟨rfl, z⟩), fun _ => rfl, fun _ => rfl⟩ (fun _ q => q) fun i q z => q ?_⟩
  obtain ⟨rfl, rfl⟩ := z
  exact ⟨hp, by rw [ht]; exact Or.inr hw⟩
theorem FrC.cpD {a0 sp dp n : Nat} (F : FrC P W g h0 h1) (hp : P a) (ht : gT g a = t) (hw : (t, 5000) ∈ W) (e : h2 = cpD h1 a0 a sp dp n) : FrC P W g h0 h2 := by
  subst e
  refine ⟨F.1, fun b j => (F.2 b j).tr (M := fun y => y = 2 ∧ b = a) ⟨fun _ => rfl, fun _ => rfl, fun q => if_neg (fun z => q ⟨rfl, z⟩), fun _ => rfl⟩ (fun _ q => q) fun i q z => q ?_⟩
  obtain ⟨rfl, rfl⟩ := z
  exact ⟨hp, by rw [ht]; exact Or.inr hw⟩
end FRC
