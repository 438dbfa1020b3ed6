/-! what a function leaves as it was: outside a set of cells that is closed under references, and places of cells that it doesn't write (by their tags; 1000: any place) -/
def Cl (P : Nat → Prop) (h : CT) : Prop := ∀ a k b, P a → hR h a k = some b → P b
def eqP (h h' : CT) (a k : Nat) : Prop := hI h' a k = hI h a k ∧ hL h' a k = hL h a k ∧ hD h' a k = hD h a k ∧ hR h' a k = hR h a k
def wr (W : List (Nat × Nat)) (t k : Nat) : Prop := (t, k) ∈ W ∨ (t, 1000) ∈ W
def FrC (P : Nat → Prop) (W : List (Nat × Nat)) (g : MT) (h h' : CT) : Prop := Cl P h' ∧ ∀ a k, ¬ (P a ∧ wr W (gT g a) k) → eqP h h' a k
def PEc (P : Nat → Prop) (E : EC) : Prop := (∀ i b, E.1 i = .ref b → P b) ∧ ∀ a k b, hR E.2.1 a k = some b → P b
theorem eqP.rf (h : CT) (a k : Nat) : eqP h h a k := ⟨rfl, rfl, rfl, rfl⟩
theorem eqP.tr {h h1 h2 : CT} {a k : Nat} (x : eqP h h1 a k) (y : eqP h1 h2 a k) : eqP h h2 a k := ⟨y.1.trans x.1, y.2.1.trans x.2.1, y.2.2.1.trans x.2.2.1, y.2.2.2.trans x.2.2.2⟩
theorem wr.sub {W W' : List (Nat × Nat)} {t k : Nat} (h : wr W' t k) (hs : ∀ t ∈ W', t ∈ W) : wr W t k := h.elim (fun q => Or.inl (hs _ q)) (fun q => Or.inr (hs _ q))
section FRC
variable {P : Nat → Prop} {W W' : List (Nat × Nat)} {g : MT} {h h0 h1 h2 : CT} {a k t : Nat}
theorem FrC.rf (hc : Cl P h) : FrC P W g h h := ⟨hc, fun a k _ => eqP.rf h a k⟩
theorem FrC.trans (F : FrC P W g h0 h1) (F2 : FrC P W' g h1 h2) (hs : ∀ t ∈ W', t ∈ W) : FrC P W g h0 h2 :=
  ⟨F2.1, fun a k ha => (F.2 a k ha).tr (F2.2 a k fun q => ha ⟨q.1, q.2.sub hs⟩)⟩
theorem FrC.sub (F : FrC P W' g h0 h1) (hs : ∀ t ∈ W', t ∈ W) : FrC P W g h0 h1 := ⟨F.1, fun a k ha => F.2 a k fun q => ha ⟨q.1, q.2.sub hs⟩⟩
theorem FrC.of (F : FrC P W g h0 h1) (hp : P a) (ht : gT g a = t) (hw : wr W t k) (hr : Cl P h2) (he : ∀ b j, ¬ (b = a ∧ j = k) → eqP h1 h2 b j) : FrC P W g h0 h2 := by
  refine ⟨hr, fun b j hb => (F.2 b j hb).tr (he b j fun q => hb ?_)⟩
  obtain ⟨rfl, rfl⟩ := q
  exact ⟨hp, by rw [ht]; exact hw⟩
theorem FrC.ofa (F : FrC P W g h0 h1) (hp : P a) (ht : gT g a = t) (hw : (t, 1000) ∈ W) (hr : Cl P h2) (he : ∀ b, b ≠ a → ∀ j, eqP h1 h2 b j) : FrC P W g h0 h2 := by
  refine ⟨hr, fun b j hb => (F.2 b j hb).tr (he b (fun q => hb ?_) j)⟩
  subst q
  exact ⟨hp, by rw [ht]; exact Or.inr hw⟩
theorem FrC.sI {x : Int32} (F : FrC P W g h0 h1) (hp : P a) (ht : gT g a = t) (hw : wr W t k) (e : h2 = sI h1 a k x) : FrC P W g h0 h2 := by
  subst e
  exact F.of hp ht hw F.1 fun b j hb => ⟨if_neg hb, rfl, rfl, rfl⟩
theorem FrC.sL {x : Int64} (F : FrC P W g h0 h1) (hp : P a) (ht : gT g a = t) (hw : wr W t k) (e : h2 = sL h1 a k x) : FrC P W g h0 h2 := by
  subst e
  exact F.of hp ht hw F.1 fun b j hb => ⟨rfl, if_neg hb, rfl, rfl⟩
theorem FrC.sD {x : UInt64} (F : FrC P W g h0 h1) (hp : P a) (ht : gT g a = t) (hw : wr W t k) (e : h2 = sD h1 a k x) : FrC P W g h0 h2 := by
  subst e
  exact F.of hp ht hw F.1 fun b j hb => ⟨rfl, rfl, if_neg hb, rfl⟩
theorem FrC.sR {x : Option Nat} (F : FrC P W g h0 h1) (hp : P a) (ht : gT g a = t) (hw : wr W t k) (hx : ∀ b, x = some b → P b) (e : h2 = sR h1 a k x) : FrC P W g h0 h2 := by
  subst e
  refine F.of hp ht hw (fun b j c hb hc => ?_) fun b j hb => ⟨rfl, rfl, rfl, if_neg hb⟩
  by_cases q : b = a ∧ j = k
  · exact hx c ((if_pos q).symm.trans hc)
  · exact F.1 b j c hb ((if_neg q).symm.trans hc)
theorem FrC.cpL {a0 sp dp n : Nat} (F : FrC P W g h0 h1) (hp : P a) (ht : gT g a = t) (hw : (t, 1000) ∈ W) (e : h2 = cpL h1 a0 a sp dp n) : FrC P W g h0 h2 := by
  subst e
  exact F.ofa hp ht hw F.1 fun b hb j => ⟨rfl, if_neg hb, rfl, rfl⟩
theorem FrC.cpD {a0 sp dp n : Nat} (F : FrC P W g h0 h1) (hp : P a) (ht : gT g a = t) (hw : (t, 1000) ∈ W) (e : h2 = cpD h1 a0 a sp dp n) : FrC P W g h0 h2 := by
  subst e
  exact F.ofa hp ht hw F.1 fun b hb j => ⟨rfl, rfl, if_neg hb, rfl⟩
end FRC
