/-! the same for functions that make cells: P holds of all new cells -/
def FrA (P : Nat → Prop) (W : List (Nat × Nat)) (g : MT) (h : CT) (g' : MT) (h' : CT) : Prop :=
  gN g ≤ gN g' ∧ (∀ a, a < gN g → gT g' a = gT g a ∧ gL g' a = gL g a) ∧ Cl P h' ∧ ∀ a k, a < gN g → eqW (fun y => P a ∧ wr W (gT g a) y k) h h' a k
section FRA
variable {P : Nat → Prop} {W W' : List (Nat × Nat)} {g g1 g2 : MT} {h h0 h1 h2 : CT} {a k t : Nat}
theorem FrA.rf (hc : Cl P h) : FrA P W g h g h := ⟨Nat.le_refl _, fun _ _ => ⟨rfl, rfl⟩, hc, fun a k _ => eqW.rf _ h a k⟩
theorem FrA.trans (F : FrA P W g h0 g1 h1) (F2 : FrA P W' g1 h1 g2 h2) (hs : ∀ t ∈ W', t ∈ W) : FrA P W g h0 g2 h2 :=
  ⟨Nat.le_trans F.1 F2.1, fun a ha => ⟨(F2.2.1 a (Nat.lt_of_lt_of_le ha F.1)).1.trans (F.2.1 a ha).1, (F2.2.1 a (Nat.lt_of_lt_of_le ha F.1)).2.trans (F.2.1 a ha).2⟩, F2.2.2.1, fun a k ha =>
    (F.2.2.2 a k ha).tr (F2.2.2.2 a k (Nat.lt_of_lt_of_le ha F.1)) (fun _ q => q) fun _ q z => q ⟨z.1, by rw [← (F.2.1 a ha).1]; exact z.2.sub hs⟩⟩
theorem FrA.call (F : FrA P W g h0 g1 h1) (F2 : FrC P W' g1 h1 h2) (hs : ∀ t ∈ W', t ∈ W) : FrA P W g h0 g1 h2 :=
  ⟨F.1, F.2.1, F2.1, fun a k ha => (F.2.2.2 a k ha).tr (F2.2 a k) (fun _ q => q) fun _ q z => q ⟨z.1, by rw [← (F.2.1 a ha).1]; exact z.2.sub hs⟩⟩
theorem FrA.alloc {n : Nat} (F : FrA P W g h0 g1 h1) (hP : ∀ a, gN g ≤ a → P a) (e1 : g2 = gA g1 t n) (e2 : h2 = hZ h1 (gN g1)) : FrA P W g h0 g2 h2 := by
  subst e1; subst e2
  have hne : ∀ a, a < gN g → a ≠ gN g1 := fun a ha q => absurd (Nat.lt_of_lt_of_le ha F.1) (by rw [q]; exact Nat.lt_irrefl _)
  refine ⟨Nat.le_succ_of_le F.1, fun a ha => ⟨(if_neg (hne a ha)).trans (F.2.1 a ha).1, (if_neg (hne a ha)).trans (F.2.1 a ha).2⟩, fun a k b hp hb => ?_, fun a k ha => (F.2.2.2 a k ha).tr (M := fun _ => False) ⟨fun _ => ?_, fun _ => ?_, fun _ => ?_, fun _ => ?_⟩ (fun _ q => q) (fun _ _ z => z)⟩
  · by_cases q : a = gN g1
    · exact absurd ((congrFun (if_pos q : up1 h1.2.2.2 (gN g1) (fun _ => none) a = _) k).symm.trans hb) (by simp)
    · exact F.2.2.1 a k b hp ((congrFun (if_neg q : up1 h1.2.2.2 (gN g1) (fun _ => none) a = _) k).symm.trans hb)
  · exact congrFun (if_neg (hne a ha)) k
  · exact congrFun (if_neg (hne a ha)) k
  · exact congrFun (if_neg (hne a ha)) k
  · exact congrFun (if_neg (hne a ha)) k
theorem FrA.st (F : FrA P W g h0 g1 h1) (F2 : FrC P W g1 h1 h2) : FrA P W g h0 g1 h2 := F.call F2 fun _ q => q
theorem FrA.cl (F : FrA P W g h0 g1 h1) : Cl P h1 := F.2.2.1
theorem FrA.sI {x : Int32} (F : FrA P W g h0 g1 h1) (hp : P a) (ht : gT g1 a = t) (hw : wr W t 0 k) (e : h2 = sI h1 a k x) : FrA P W g h0 g1 h2 := F.st ((FrC.rf F.cl).sI hp ht hw e)
theorem FrA.sL {x : Int64} (F : FrA P W g h0 g1 h1) (hp : P a) (ht : gT g1 a = t) (hw : wr W t 1 k) (e : h2 = sL h1 a k x) : FrA P W g h0 g1 h2 := F.st ((FrC.rf F.cl).sL hp ht hw e)
theorem FrA.sD {x : UInt64} (F : FrA P W g h0 g1 h1) (hp : P a) (ht : gT g1 a = t) (hw : wr W t 2 k) (e : h2 = sD h1 a k x) : FrA P W g h0 g1 h2 := F.st ((FrC.rf F.cl).sD hp ht hw e)
theorem FrA.sR {x : Option Nat} (F : FrA P W g h0 g1 h1) (hp : P a) (ht : gT g1 a = t) (hw : wr W t 3 k) (hx : ∀ b, x = some b → P b) (e : h2 = sR h1 a k x) : FrA P W g h0 g1 h2 := F.st ((FrC.rf F.cl).sR hp ht hw hx e)
end FRA
