-- walks that make cells
def Zy (X : Cx) (G : Gx) (cc : ByteArray) (own : String) (maxL dk : Nat) (ret : Option FieldType) (r : Option Value) (nm : String) (g' : MT) (h' : CT) : Prop :=
  Fx X cc own ∧ xL X = maxL ∧ (xR X).frames = dk ∧ (xR X).locals = 60 * dk ∧ RT X G ret r g' h' ∧ xN X + (xR X).cells = gN g' ∧ xU X + (xR X).slots = gU g' ∧ (xh X).name = nm
section ZY
variable {X : Cx} {G : Gx} {cc : ByteArray} {own nm : String} {maxL dk : Nat} {ret : Option FieldType} {r : Option Value} {g g1 g' : MT} {h' : CT}
theorem yL {i : Nat} (Z : Zy X G cc own maxL dk ret r nm g' h') (h : i < maxL) : i < xL X := by rw [Z.2.1]; exact h
theorem yF {d : Nat} (Z : Zy X G cc own maxL dk ret r nm g' h') (h : d + 1 ≤ dk) : d + 1 ≤ (xR X).frames := by rw [Z.2.2.1]; exact h
theorem yO {d m : Nat} (Z : Zy X G cc own maxL dk ret r nm g' h') (h : d + 1 ≤ dk) (hm : m ≤ 41) : 8 + (m + 11) + 60 * d ≤ (xR X).locals := by rw [Z.2.2.2.1]; omega
theorem yO1 {n : Nat} (Z : Zy X G cc own maxL dk ret r nm g' h') (h : 1 ≤ dk) (hs : n ≤ 8) : n + 15 ≤ (xR X).locals := by rw [Z.2.2.2.1]; omega
theorem yO2 {n : Nat} (Z : Zy X G cc own maxL dk ret r nm g' h') (h : 1 ≤ dk) (hs : n ≤ 8) : n + 12 ≤ (xR X).locals := by rw [Z.2.2.2.1]; omega
theorem yG (Z : Zy X G cc own maxL dk ret r nm g' h') : (xB X, xD X, xK X, xk X) = G := Z.2.2.2.2.1.2.2
theorem yE {E : EC} (Z : Zy X G cc own maxL dk ret r nm g' h') (hE : G.2.2.2 = E) : xk X = E := by rw [← hE, ← yG Z]
theorem yEv {E : EC} (Z : Zy X G cc own maxL dk ret r nm g' h') (hE : G.2.2.2 = E) {i : Nat} {v : Value} (h : E.1 i = v) : (xk X).1 i = v := by rw [yE Z hE]; exact h
theorem rmA {t n : Nat} (Z : Zy X G cc own maxL dk ret r nm g' h') (M : RM X g) (h : gN (gA g t n) ≤ gN g' ∧ gU (gA g t n) ≤ gU g') : RM X (gA g t n) := by
  obtain ⟨-, -, -, -, -, c1, c2, -⟩ := Z
  obtain ⟨-, -, m3, m4⟩ := M
  refine ⟨by rw [c1]; exact h.1, by rw [c2]; exact h.2, ?_, ?_⟩
  · simp only [gA, gN] at m3 ⊢; omega
  · simp only [gA, gU] at m4 ⊢; omega
theorem rmC (Z : Zy X G cc own maxL dk ret r nm g' h') (M : RM X g) (ho : gN g ≤ gN g1 ∧ gU g ≤ gU g1) (h : gN g1 ≤ gN g' ∧ gU g1 ≤ gU g') : RM X g1 := by
  obtain ⟨-, -, -, -, -, c1, c2, -⟩ := Z
  obtain ⟨-, -, m3, m4⟩ := M
  exact ⟨by rw [c1]; exact h.1, by rw [c2]; exact h.2, Nat.le_trans m3 ho.1, Nat.le_trans m4 ho.2⟩
theorem kaoX11 (F : Fx X cc own) : va_AO RX11 (xs X) := F.2.2.2.2.2.2.2.2.2.2.2.1.1
theorem kaoX8 (F : Fx X cc own) : va_AO RX8 (xs X) := F.2.2.2.2.2.2.2.2.2.2.2.1.2.1
theorem kaoX2 (F : Fx X cc own) : va_AO RX2 (xs X) := F.2.2.2.2.2.2.2.2.2.2.2.1.2.2.1
theorem kaoX3 (F : Fx X cc own) : va_AO RX3 (xs X) := F.2.2.2.2.2.2.2.2.2.2.2.1.2.2.2
end ZY
section ZO
variable {X : Cx} {G : Gx} {cc : ByteArray} {own : String} {maxL dk : Nat} {ret : Option FieldType} {r : Option Value} {g : MT} {h' : CT}
theorem zO2 {n : Nat} (Z : Zx X G cc own maxL dk ret r g h') (h : 1 ≤ dk) (hs : n ≤ 8) : n + 12 ≤ (xR X).locals := by rw [Z.2.2.2.2.1]; omega
end ZO
/-- a body that makes cells -/
theorem Ctr.ofY {G : Gx} {d : Nat} {y : MethodName} {cc : ByteArray} {maxL : Nat} {ret : Option FieldType} {as : List Value} {lv : List (Nat × Value)} {g g' : MT} {h : CT} {r : Option Value} {h' : CT}
    (hy : plainFor y = true) (hl : ((as.map fun v => v.category).sum ≤ maxL)) (hlv : lv_args 0 as = lv) (hm : gN g ≤ gN g' ∧ gU g ≤ gU g')
    (body : ∀ X : Cx, Zy X G cc y.cls maxL d ret r y.name g' h' → RM X g → J X g h 0 lv []) : Ctr G d y cc maxL ret as g h r g' h' := by
  subst hlv
  exact Ctr.of hy hl hm fun X F M h1 h2 h3 h4 h5 h6 h7 h8 Rt => body X ⟨F, h1, h2, h3, Rt, by rw [h5, h7]; omega, by rw [h6, h8]; omega, h4⟩ M
def gq {α : Type} (pr : α → MT) (g1 : MT) (k : Option α) : Option α := match k with
  | some r => if gN g1 ≤ gN (pr r) ∧ gU g1 ≤ gU (pr r) then some r else none
  | none => none
theorem gq_i {α : Type} {pr : α → MT} {g1 : MT} {k : Option α} {x : α} (h : gq pr g1 k = some x) : (gN g1 ≤ gN (pr x) ∧ gU g1 ≤ gU (pr x)) ∧ k = some x := by
  cases k with
  | none => cases h
  | some r =>
    simp only [gq] at h
    split at h
    · cases h; exact ⟨by assumption, rfl⟩
    · cases h
def na {α : Type} (n : Int32) (k : Option α) : Option α := if ¬ n < 0 ∧ n.toNatClampNeg ≤ 4096 then k else none
theorem na_i {α : Type} {n : Int32} {k : Option α} {x : α} (h : na n k = some x) : (¬ n < 0 ∧ n.toNatClampNeg ≤ 4096) ∧ k = some x := by
  unfold na at h
  split at h
  · exact ⟨by assumption, h⟩
  · cases h
theorem naB {n b : Nat} (h : n ≤ 4096) (hb : b ≤ 8) : n * b ≤ 536870912 := Nat.le_trans (Nat.mul_le_mul h hb) (by decide)
def bd3 {α β γ δ : Type} (m : Option (α × β × γ)) (k : α → β → γ → Option δ) : Option δ := match m with
  | some a => k a.1 a.2.1 a.2.2
  | none => none
theorem bd3_i {α β γ δ : Type} {m : Option (α × β × γ)} {k : α → β → γ → Option δ} {x : δ} (h : bd3 m k = some x) : ∃ a b c, m = some (a, b, c) ∧ k a b c = some x := by
  cases m with
  | none => cases h
  | some a => exact ⟨a.1, a.2.1, a.2.2, rfl, h⟩
section JTG
variable {X : Cx} {g : MT} {h : CT} {pc : Nat} {lv : List (Nat × Value)} {st : List Value}
theorem J_tg {g0 : MT} (k : ∀ y, y = g0 → J X y h pc lv st) : J X g0 h pc lv st := k g0 rfl
theorem J_ta {a : Nat} (k : ∀ y, y = a → J X g h pc lv (va_rf (some y) :: st)) : J X g h pc lv (va_rf (some a) :: st) := k a rfl
end JTG
