/-! what holds between the class's cells (in hc) and the reference's (in hr) -/
def NaNc : UInt64 := 0x7ff8000000000000
/-- a NUMBER: its value, whether it is none; the reference's double -/
def NumR (v : UInt64) (o : Int32) (x : UInt64) : Prop := is01 o ∧ FP.dIsNaN v = false ∧ x = if o = 0 then v else NaNc
def pw (k : Nat) : UInt64 := UInt64.ofNat ((1023 + 2 ^ k) * 2 ^ 52)
def rset (f : Nat → Int32) : Int32 := (if f 0 = 0 then 0 else 1) ||| (if f 1 = 0 then 0 else 2) ||| (if f 2 = 0 then 0 else 4) ||| (if f 3 = 0 then 0 else 8) ||| (if f 4 = 0 then 0 else 16) ||| (if f 5 = 0 then 0 else 32)
def isByte (x : Int32) : Prop := x.toInt8.toInt32 = x
/-- a PROGRAM: how many INSTRUCTIONS; of each: 0 what, 1 D, 2 A, 3 B, 4 the SCALAR, 5 at, 6 by, 7 the NUMBER, 8 masked, 9 (of a strip) where it goes on behind -/
abbrev Pg : Type := Nat × (Nat → Nat → Nat)
def WF (π : Pg) : Prop := π.1 ≤ 30 ∧ ∀ k, k < π.1 → π.2 k 0 < 27 ∧ π.2 k 1 < 6 ∧ π.2 k 2 < 6 ∧ π.2 k 3 < 6 ∧ π.2 k 4 < 4 ∧ π.2 k 5 < 64 ∧ π.2 k 6 ≤ 16 ∧ π.2 k 7 ≤ 200 ∧ (π.2 k 0 = 0 → π.2 k 7 ≤ 16)
  ∧ π.2 k 8 ≤ 1 ∧ (π.2 k 8 = 1 → 7 ≤ π.2 k 0 ∧ π.2 k 0 ≤ 16) ∧ (π.2 k 0 = 25 → k < π.2 k 9 ∧ π.2 k 9 ≤ π.1 ∧ ∀ j, k < j → j < π.2 k 9 → π.2 j 0 ≠ 25)
/-- the class's PROGRAM at p -/
def PgC (op : Nat → Nat) (g : MT) (hc : CT) (p : Nat) (π : Pg) : Prop :=
  gT g p = 6 ∧ hR hc p 0 = some (p + 1) ∧ gT g (p + 1) = 25 ∧ gL g (p + 1) = 30 ∧ hI hc p 1 = nI π.1 ∧
  ∀ k, k < π.1 → ∃ i, hR hc (p + 1) k = some i ∧ gT g i = 2 ∧ hR hc i 0 = some (op (π.2 k 0)) ∧ ∀ f, 1 ≤ f → f ≤ 9 → hI hc i f = nI (π.2 k f)
/-- the reference's, in the row c from b on -/
def PgM (c : Nat → Int32) (b : Nat) (π : Pg) : Prop :=
  c (b + 5) = nI π.1 ∧ ∀ k, k < π.1 → c (b + 6 + 8 * k) = nI (π.2 k 0) ∧ c (b + 7 + 8 * k) = nI (π.2 k 1) ∧ c (b + 8 + 8 * k) = nI (π.2 k 2) ∧ c (b + 9 + 8 * k) = nI (π.2 k 3)
    ∧ c (b + 10 + 8 * k) = nI (if π.2 k 0 = 0 ∨ π.2 k 0 = 25 then π.2 k 7 else π.2 k 5) ∧ c (b + 11 + 8 * k) = nI (if π.2 k 0 = 3 ∨ π.2 k 0 = 4 then π.2 k 6 else π.2 k 4) ∧ c (b + 12 + 8 * k) = nI (π.2 k 8) ∧ (π.2 k 0 = 25 → c (b + 13 + 8 * k) = nI (π.2 k 9))
/-- NUMBERS side by side -/
def RowR (n : Nat) (v : Nat → UInt64) (o : Nat → Int32) (x : Nat → UInt64) (b : Nat) : Prop := ∀ i, i < n → NumR (v i) (o i) (x (b + i))
/-- all that a MARK keeps, but the PROGRAM: the class's machine at q, the reference's block from c and v on -/
def MacD (hc : CT) (q : Nat) (cc : Nat → Int32) (vv : Nat → UInt64) (c v : Nat) : Prop :=
  (∃ n, n ≤ 16 ∧ hI hc q 5 = nI n ∧ cc c = nI n) ∧ (∃ n, 1 ≤ n ∧ n ≤ 16 ∧ hI hc q 6 = nI n ∧ cc (c + 1) = nI n) ∧ (∃ n, 1 ≤ n ∧ n ≤ 12 ∧ hI hc q 7 = nI n ∧ cc (c + 2) = nI n) ∧ (∃ n, n < 65536 ∧ hI hc q 4 = nI n ∧ cc (c + 3) = nI n)
  ∧ (∀ r, r < 6 → is01 (hI hc (q + 20) r)) ∧ cc (c + 4) = rset (hI hc (q + 20))
  ∧ (∀ r, r < 6 → RowR 16 (hD hc (q + 3 + 3 * r)) (hI hc (q + 4 + 3 * r)) vv (v + 16 * r)) ∧ RowR 4 (hD hc (q + 22)) (hI hc (q + 23)) vv (v + 96) ∧ RowR 64 (hD hc (q + 25)) (hI hc (q + 26)) vv (v + 100)
def MacP (B : Nat) (op : Nat → Nat) (g : MT) (hc : CT) (q : Nat) (cc : Nat → Int32) (c : Nat) : Prop := ∃ p π, hR hc q 8 = some p ∧ p ≠ B + 174 ∧ WF π ∧ PgC op g hc p π ∧ PgM cc c π
def MacR (B : Nat) (op : Nat → Nat) (g : MT) (hc : CT) (q : Nat) (hr : CT) (k : Nat) : Prop := MacD hc (B + q) (hI hr (B + 192)) (hD hr (B + 193)) (246 * k) (164 * k) ∧ MacP B op g hc (B + q) (hI hr (B + 192)) (246 * k)
-- the parts
def ObjR (B : Nat) (hc hr : CT) : Prop := hI hc B 19 = hI hr (B + 187) 0 ∧ hI hc B 2 = hI hr (B + 187) 8 ∧ hI hc B 6 = hI hr (B + 187) 21 ∧ hI hc B 9 = hI hr (B + 187) 41 ∧ hI hc B 10 = hI hr (B + 187) 22
  ∧ hL hc (B + 130) 0 = hL hr (B + 187) 2 ∧ hI hc (B + 130) 1 = hI hr (B + 187) 3 ∧ hI hc (B + 11) 0 = hI hr (B + 187) 10 ∧ hI hc (B + 11) 1 = hI hr (B + 187) 11
def PowR (B : Nat) (hc : CT) : Prop := ∀ k, k < 10 → hD hc (B + 131) k = pw k
def TraR (B : Nat) (hc hr : CT) : Prop := ∀ t, t < 4 → is01 (hI hc (B + 2 + 2 * t) 0) ∧ (hI hc (B + 2 + 2 * t) 0 = 0 → hI hr (B + 189) t = -1) ∧ (hI hc (B + 2 + 2 * t) 0 = 1 → ∃ m s, m ≤ 60 ∧ s < 4 ∧ hI hc (B + 2 + 2 * t) 2 = nI m ∧ hI hr (B + 189) t = nI m ∧ hI hc (B + 2 + 2 * t) 1 = nI s ∧ hI hr (B + 188) t = nI s
  ∧ ∀ k, k < m → hL hc (B + 3 + 2 * t) k = hL hr (B + 190) (60 * t + k))
def TapR (B : Nat) (hc hr : CT) : Prop := (∃ n, n ≤ 900 ∧ hI hc B 2 = nI n) ∧ hI hc (B + 10) = hI hr (B + 191) ∧ ∀ k, isByte (hI hc (B + 10) k)
def MarR (B : Nat) (op : Nat → Nat) (g : MT) (hc hr : CT) : Prop := ∃ n, n ≤ 3 ∧ hI hc B 6 = nI n ∧ ∀ i, i < n → MacR B op g hc (43 + 29 * i) hr (i + 1)
def LasR (B : Nat) (hc hr : CT) : Prop := is01 (hI hc B 9) ∧ is01 (hI hc B 10)
  ∧ (hI hc B 9 = 1 → (∀ j, j < 6 → hI hc (B + 138) j = hI hr (B + 201) j) ∧ (∀ j, j < 4 → 0 ≤ (hI hc (B + 138) j).toInt) ∧ (hI hc (B + 138) 3 = 0 → hI hc (B + 138) 4 = -1 ∧ hI hc (B + 138) 5 = -1) ∧ (¬ hI hc (B + 138) 3 = 0 → 0 ≤ (hI hc (B + 138) 4).toInt ∧ 0 ≤ (hI hc (B + 138) 5).toInt))
  ∧ (hI hc B 10 = 1 → ∀ k, k < 30 → hI hc (B + 139) k = hI hr (B + 202) k ∧ ((hI hc (B + 139) k = -1 ∧ hI hc (B + 140) k = -1) ∨ (0 ≤ (hI hc (B + 139) k).toInt ∧ hI hc (B + 140) k = hI hr (B + 203) k ∧ -1 ≤ (hI hc (B + 140) k).toInt)))
def ScrR (B : Nat) (hc : CT) : Prop := is01 (hI hc (B + 136) 1) ∧ is01 (hI hc (B + 137) 1) ∧ is01 (hI hc (B + 183) 1) ∧ is01 (hI hc (B + 184) 1) ∧ is01 (hI hc (B + 185) 1) ∧ is01 (hI hc (B + 186) 1)
def Rel (B : Nat) (op : Nat → Nat) (g : MT) (hc hr : CT) : Prop :=
  Sh B g ∧ PtC B (hR hc) ∧ PtR B (hR hr) ∧ ObjR B hc hr ∧ PowR B hc ∧ TraR B hc hr ∧ TapR B hc hr ∧ MacR B op g hc 13 hr 0 ∧ MarR B op g hc hr ∧ LasR B hc hr ∧ ScrR B hc
-- the two zones, and what is left as it was in them but at some places
def RZ (B : Nat) (a : Nat) : Prop := B + 187 ≤ a ∧ a < B + 205
def Eqa (h h' : CT) (a : Nat) : Prop := hI h' a = hI h a ∧ hL h' a = hL h a ∧ hD h' a = hD h a ∧ hR h' a = hR h a
def OfC (B : Nat) (W : List Nat) (h h' : CT) : Prop := ∀ a, ¬ RZ B a → (∀ w ∈ W, a ≠ B + w) → Eqa h h' a
def OfR (B : Nat) (W : List Nat) (h h' : CT) : Prop := ∀ a, RZ B a → (∀ w ∈ W, a ≠ B + w) → Eqa h h' a
theorem Eqa.rf (h : CT) (a : Nat) : Eqa h h a := ⟨rfl, rfl, rfl, rfl⟩
theorem Eqa.tr {h h1 h2 : CT} {a : Nat} (x : Eqa h h1 a) (y : Eqa h1 h2 a) : Eqa h h2 a := ⟨y.1.trans x.1, y.2.1.trans x.2.1, y.2.2.1.trans x.2.2.1, y.2.2.2.trans x.2.2.2⟩
theorem Eqa.sI {h h1 : CT} {a b k : Nat} {x : Int32} (e : Eqa h h1 a) (hb : a ≠ b) : Eqa h (sI h1 b k x) a := ⟨by rw [hI_sI, if_neg hb]; exact e.1, e.2.1, e.2.2.1, e.2.2.2⟩
theorem Eqa.sL {h h1 : CT} {a b k : Nat} {x : Int64} (e : Eqa h h1 a) (hb : a ≠ b) : Eqa h (sL h1 b k x) a := ⟨e.1, by rw [hL_sL, if_neg hb]; exact e.2.1, e.2.2.1, e.2.2.2⟩
theorem Eqa.sD {h h1 : CT} {a b k : Nat} {x : UInt64} (e : Eqa h h1 a) (hb : a ≠ b) : Eqa h (sD h1 b k x) a := ⟨e.1, e.2.1, by rw [hD_sD, if_neg hb]; exact e.2.2.1, e.2.2.2⟩
theorem Eqa.sR {h h1 : CT} {a b k : Nat} {x : Option Nat} (e : Eqa h h1 a) (hb : a ≠ b) : Eqa h (sR h1 b k x) a := ⟨e.1, e.2.1, e.2.2.1, by rw [hR_sR, if_neg hb]; exact e.2.2.2⟩
theorem Eqa.cpL {h h1 : CT} {a b a0 sp dp n : Nat} (e : Eqa h h1 a) (hb : a ≠ b) : Eqa h (cpL h1 a0 b sp dp n) a := ⟨e.1, by rw [hL_cpL, if_neg hb]; exact e.2.1, e.2.2.1, e.2.2.2⟩
theorem Eqa.cpD {h h1 : CT} {a b a0 sp dp n : Nat} (e : Eqa h h1 a) (hb : a ≠ b) : Eqa h (cpD h1 a0 b sp dp n) a := ⟨e.1, e.2.1, by rw [hD_cpD, if_neg hb]; exact e.2.2.1, e.2.2.2⟩
section OFS
variable {B : Nat} {W W' : List Nat} {h h1 h2 : CT} {w k : Nat}
theorem OfC.rf (h : CT) : OfC B W h h := fun a _ _ => Eqa.rf h a
theorem OfC.tr (x : OfC B W h h1) (y : OfC B W h1 h2) : OfC B W h h2 := fun a h1 h2 => (x a h1 h2).tr (y a h1 h2)
theorem OfC.mono (x : OfC B W h h1) (e : ∀ w ∈ W, w ∈ W') : OfC B W' h h1 := fun a h1 h2 => x a h1 fun w hw => h2 w (e w hw)
theorem OfC.sI {x : Int32} (o : OfC B W h h1) (hw : w ∈ W) : OfC B W h (sI h1 (B + w) k x) := fun a z1 z2 => (o a z1 z2).sI (z2 w hw)
theorem OfC.sL {x : Int64} (o : OfC B W h h1) (hw : w ∈ W) : OfC B W h (sL h1 (B + w) k x) := fun a z1 z2 => (o a z1 z2).sL (z2 w hw)
theorem OfC.sD {x : UInt64} (o : OfC B W h h1) (hw : w ∈ W) : OfC B W h (sD h1 (B + w) k x) := fun a z1 z2 => (o a z1 z2).sD (z2 w hw)
theorem OfC.sR {x : Option Nat} (o : OfC B W h h1) (hw : w ∈ W) : OfC B W h (sR h1 (B + w) k x) := fun a z1 z2 => (o a z1 z2).sR (z2 w hw)
theorem OfR.rf (h : CT) : OfR B W h h := fun a _ _ => Eqa.rf h a
theorem OfR.tr (x : OfR B W h h1) (y : OfR B W h1 h2) : OfR B W h h2 := fun a h1 h2 => (x a h1 h2).tr (y a h1 h2)
theorem OfR.mono (x : OfR B W h h1) (e : ∀ w ∈ W, w ∈ W') : OfR B W' h h1 := fun a h1 h2 => x a h1 fun w hw => h2 w (e w hw)
theorem OfR.sI {x : Int32} (o : OfR B W h h1) (hw : w ∈ W) : OfR B W h (sI h1 (B + w) k x) := fun a z1 z2 => (o a z1 z2).sI (z2 w hw)
theorem OfR.sL {x : Int64} (o : OfR B W h h1) (hw : w ∈ W) : OfR B W h (sL h1 (B + w) k x) := fun a z1 z2 => (o a z1 z2).sL (z2 w hw)
theorem OfR.sD {x : UInt64} (o : OfR B W h h1) (hw : w ∈ W) : OfR B W h (sD h1 (B + w) k x) := fun a z1 z2 => (o a z1 z2).sD (z2 w hw)
theorem OfC.at (o : OfC B W h h1) (n : Nat) (hn : n < 187) (hw : n ∉ W) : Eqa h h1 (B + n) := o _ (fun z => by have := z.1; omega) fun w h e => hw ((show w = n by omega) ▸ h)
theorem OfR.at (o : OfR B W h h1) (n : Nat) (hn : 187 ≤ n) (hn2 : n < 205) (hw : n ∉ W) : Eqa h h1 (B + n) := o _ ⟨by omega, by omega⟩ fun w h e => hw ((show w = n by omega) ▸ h)
/-- cells of PROGRAMS and INSTRUCTIONS are none of the fixed ones that are written (but those of the one that is tried) -/
def okW (W : List Nat) : Bool := W.all fun w => match stg[w]? with
  | some q => (q.1 != 6 && q.1 != 25 && q.1 != 2) || w == 174 || w == 175
  | none => false
theorem OfC.pg {g : MT} {a : Nat} (o : OfC B W h h1) (S : Sh B g) (hW : okW W = true) (ht : gT g a = 6 ∨ gT g a = 25 ∨ gT g a = 2) (n1 : a ≠ B + 174) (n2 : a ≠ B + 175) : Eqa h h1 a := by
  have key : ∀ w q, stg[w]? = some q → a = B + w → gT g a = q.1 := fun w q hq e => by rw [e]; exact (S.2 w q hq).1
  refine o a (fun z => ?_) fun w hw e => ?_
  · obtain ⟨w, hw⟩ : ∃ w, a = B + w := ⟨a - B, by have := z.1; omega⟩
    have h1 : 187 ≤ w := by have := z.1; omega
    have h2 : w < 205 := by have := z.2; omega
    have tab : ∀ w, w < 205 → 187 ≤ w → ∃ q, stg[w]? = some q ∧ q.1 ≠ 6 ∧ q.1 ≠ 25 ∧ q.1 ≠ 2 := by decide +kernel
    obtain ⟨q, hq, n1, n2, n3⟩ := tab w h2 h1
    have := key w q hq hw
    omega
  · have h1 := List.all_eq_true.mp hW w hw
    cases hq : stg[w]? with
    | none => rw [hq] at h1; cases h1
    | some q =>
      rw [hq] at h1
      simp only [Bool.or_eq_true, Bool.and_eq_true, bne_iff_ne, ne_eq, beq_iff_eq] at h1
      have := key w q hq e
      rcases h1 with (h1 | h1) | h1
      · omega
      · subst h1; exact n1 e
      · subst h1; exact n2 e
end OFS
