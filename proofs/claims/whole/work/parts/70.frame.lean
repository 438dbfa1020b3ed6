/-! what a function leaves as it was: outside a set of cells that is closed under references, and cells of other tags -/
def Cl (P : Nat → Prop) (h : CT) : Prop := ∀ a k b, P a → hR h a k = some b → P b
def eqA (h h' : CT) (a : Nat) : Prop := (∀ k, hI h' a k = hI h a k) ∧ (∀ k, hL h' a k = hL h a k) ∧ (∀ k, hD h' a k = hD h a k) ∧ ∀ k, hR h' a k = hR h a k
def FrC (P : Nat → Prop) (W : List Nat) (g : MT) (h h' : CT) : Prop := Cl P h' ∧ ∀ a, ¬ (P a ∧ gT g a ∈ W) → eqA h h' a
def PEc (P : Nat → Prop) (E : EC) : Prop := (∀ i b, E.1 i = .ref b → P b) ∧ ∀ a k b, hR E.2.1 a k = some b → P b
theorem eqA.rf (h : CT) (a : Nat) : eqA h h a := ⟨fun _ => rfl, fun _ => rfl, fun _ => rfl, fun _ => rfl⟩
theorem eqA.tr {h h1 h2 : CT} {a : Nat} (x : eqA h h1 a) (y : eqA h1 h2 a) : eqA h h2 a := ⟨fun k => (y.1 k).trans (x.1 k), fun k => (y.2.1 k).trans (x.2.1 k), fun k => (y.2.2.1 k).trans (x.2.2.1 k), fun k => (y.2.2.2 k).trans (x.2.2.2 k)⟩
section FRC
variable {P : Nat → Prop} {W W' : List Nat} {g : MT} {h h0 h1 h2 : CT} {a k t : Nat}
theorem FrC.rf (hc : Cl P h) : FrC P W g h h := ⟨hc, fun a _ => eqA.rf h a⟩
theorem FrC.trans (F : FrC P W g h0 h1) (F2 : FrC P W' g h1 h2) (hs : ∀ t ∈ W', t ∈ W) : FrC P W g h0 h2 :=
  ⟨F2.1, fun a ha => (F.2 a ha).tr (F2.2 a fun q => ha ⟨q.1, hs _ q.2⟩)⟩
theorem FrC.sub (F : FrC P W' g h0 h1) (hs : ∀ t ∈ W', t ∈ W) : FrC P W g h0 h1 := ⟨F.1, fun a ha => F.2 a fun q => ha ⟨q.1, hs _ q.2⟩⟩
theorem up2_ne {α : Type} {f : Nat → Nat → α} {a k : Nat} {x : α} {b : Nat} (hb : b ≠ a) (j : Nat) : up2 f a k x b j = f b j := if_neg (fun q => hb q.1)
theorem FrC.of (F : FrC P W g h0 h1) (hp : P a) (ht : gT g a = t) (hw : t ∈ W) (hr : Cl P h2) (he : ∀ b, b ≠ a → eqA h1 h2 b) : FrC P W g h0 h2 := by
  refine ⟨hr, fun b hb => (F.2 b hb).tr (he b fun q => hb ?_)⟩
  subst q
  exact ⟨hp, by rw [ht]; exact hw⟩
theorem FrC.sI {x : Int32} (F : FrC P W g h0 h1) (hp : P a) (ht : gT g a = t) (hw : t ∈ W) (e : h2 = sI h1 a k x) : FrC P W g h0 h2 := by
  subst e
  exact F.of hp ht hw F.1 fun b hb => ⟨up2_ne hb, fun _ => rfl, fun _ => rfl, fun _ => rfl⟩
theorem FrC.sL {x : Int64} (F : FrC P W g h0 h1) (hp : P a) (ht : gT g a = t) (hw : t ∈ W) (e : h2 = sL h1 a k x) : FrC P W g h0 h2 := by
  subst e
  exact F.of hp ht hw F.1 fun b hb => ⟨fun _ => rfl, up2_ne hb, fun _ => rfl, fun _ => rfl⟩
theorem FrC.sD {x : UInt64} (F : FrC P W g h0 h1) (hp : P a) (ht : gT g a = t) (hw : t ∈ W) (e : h2 = sD h1 a k x) : FrC P W g h0 h2 := by
  subst e
  exact F.of hp ht hw F.1 fun b hb => ⟨fun _ => rfl, fun _ => rfl, up2_ne hb, fun _ => rfl⟩
theorem FrC.sR {x : Option Nat} (F : FrC P W g h0 h1) (hp : P a) (ht : gT g a = t) (hw : t ∈ W) (hx : ∀ b, x = some b → P b) (e : h2 = sR h1 a k x) : FrC P W g h0 h2 := by
  subst e
  refine F.of hp ht hw (fun b j c hb hc => ?_) fun b hb => ⟨fun _ => rfl, fun _ => rfl, fun _ => rfl, up2_ne hb⟩
  by_cases q : b = a ∧ j = k
  · exact hx c ((if_pos q).symm.trans hc)
  · exact F.1 b j c hb ((if_neg q).symm.trans hc)
theorem FrC.cpL {a0 sp dp n : Nat} (F : FrC P W g h0 h1) (hp : P a) (ht : gT g a = t) (hw : t ∈ W) (e : h2 = cpL h1 a0 a sp dp n) : FrC P W g h0 h2 := by
  subst e
  exact F.of hp ht hw F.1 fun b hb => ⟨fun _ => rfl, fun _ => if_neg hb, fun _ => rfl, fun _ => rfl⟩
theorem FrC.cpD {a0 sp dp n : Nat} (F : FrC P W g h0 h1) (hp : P a) (ht : gT g a = t) (hw : t ∈ W) (e : h2 = cpD h1 a0 a sp dp n) : FrC P W g h0 h2 := by
  subst e
  exact F.of hp ht hw F.1 fun b hb => ⟨fun _ => rfl, fun _ => rfl, fun _ => if_neg hb, fun _ => rfl⟩
end FRC
