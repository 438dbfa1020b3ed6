/-! A METHOD'S WALK OVER A PLAIN HEAP: contents by address and place; NaNs made one; the machine's own heap is told once, in Img. -/
def cnD (x : UInt64) : UInt64 := if FP.dIsNaN x then 0x7ff8000000000000 else x
def cnF (x : UInt32) : UInt32 := if FP.fIsNaN x then 0x7fc00000 else x
def cn (v : Value) : Value := match v with
  | .double x => .double (cnD x)
  | .float x => .float (cnF x)
  | w => w
theorem cn_i {v : Value} {x : Int32} (h : cn v = .int x) : v = .int x := by cases v <;> simp [cn] at h ⊢ <;> assumption
theorem cn_l {v : Value} {x : Int64} (h : cn v = .long x) : v = .long x := by cases v <;> simp [cn] at h ⊢ <;> assumption
theorem cn_d {v : Value} {x : UInt64} (h : cn v = .double x) : ∃ y, v = .double y ∧ cnD y = x := by cases v <;> simp [cn] at h ⊢ <;> assumption
theorem cn_f {v : Value} {x : UInt32} (h : cn v = .float x) : ∃ y, v = .float y ∧ cnF y = x := by cases v <;> simp [cn] at h ⊢ <;> assumption
theorem cn_r {v : Value} {x : Nat} (h : cn v = .ref x) : v = .ref x := by cases v <;> simp [cn] at h ⊢ <;> assumption
theorem cn_n {v : Value} (h : cn v = .null) : v = .null := by cases v <;> simp [cn] at h ⊢
theorem cn_q {v : Value} {r : Option Nat} (h : cn v = va_rf r) : v = va_rf r := by
  cases r with
  | none => exact cn_n h
  | some a => exact cn_r h
theorem cn_cat (v : Value) : (cn v).category = v.category := by cases v <;> rfl
theorem cn_rf (r : Option Nat) : cn (va_rf r) = va_rf r := by cases r <;> rfl
-- the contents: ints, longs, doubles, references, by address and place
abbrev CT : Type := (Nat → Nat → Int32) × (Nat → Nat → Int64) × (Nat → Nat → UInt64) × (Nat → Nat → Option Nat)
def hI (h : CT) : Nat → Nat → Int32 := h.1
def hL (h : CT) : Nat → Nat → Int64 := h.2.1
def hD (h : CT) : Nat → Nat → UInt64 := h.2.2.1
def hR (h : CT) : Nat → Nat → Option Nat := h.2.2.2
def up2 {α : Type} (f : Nat → Nat → α) (a k : Nat) (x : α) : Nat → Nat → α := fun b j => if b = a ∧ j = k then x else f b j
def sI (h : CT) (a k : Nat) (x : Int32) : CT := (up2 h.1 a k x, h.2.1, h.2.2.1, h.2.2.2)
def sL (h : CT) (a k : Nat) (x : Int64) : CT := (h.1, up2 h.2.1 a k x, h.2.2.1, h.2.2.2)
def sD (h : CT) (a k : Nat) (x : UInt64) : CT := (h.1, h.2.1, up2 h.2.2.1 a k x, h.2.2.2)
def sR (h : CT) (a k : Nat) (x : Option Nat) : CT := (h.1, h.2.1, h.2.2.1, up2 h.2.2.2 a k x)
-- what the cells are: their tags, lengths, how many there are, their places in all
abbrev MT : Type := (Nat → Nat) × (Nat → Nat) × Nat × Nat
def gT (g : MT) : Nat → Nat := g.1
def gL (g : MT) : Nat → Nat := g.2.1
def gN (g : MT) : Nat := g.2.2.1
def gU (g : MT) : Nat := g.2.2.2
def vk (ty : FieldType) (h : CT) (a k : Nat) : Value := match ty with
  | .long => .long (hL h a k)
  | .double => .double (hD h a k)
  | .object _ => va_rf (hR h a k)
  | .array _ => va_rf (hR h a k)
  | _ => .int (hI h a k)
def tyC (ci : Nat) : Nat → FieldType := match ci with
  | 0 => tyX1
  | 1 => tyX2
  | 2 => tyX3
  | 3 => tyX4
  | 4 => tyX6
  | 5 => tyX7
  | 6 => tyX8
  | 7 => tyX9
  | 8 => tyX10
  | 9 => tyX11
  | 10 => tyX12
  | _ => tyX13
/-- the kinds of arrays, by their tags less 20 -/
abbrev atys : List FieldType := [.int, .long, .double, .byte, .boolean, .object RX2, .object RX3, .object RX8, .object RX11]
def tysAll (AK : Nat → ClassId) : List (ClassId × FieldType) := (List.range 9).map (fun t => (AK t, atys.getD t .int))
def Img (B : Nat) (D : va_G) (AK : Nat → ClassId) (g : MT) (h : CT) (H : Heap) : Prop :=
  H.size = gN g ∧ ∀ a : Nat, (gT g a ≠ 0 → B ≤ a) ∧ (∀ ci, gT g a = ci + 1 → ci < 12 → ∃ (r : vw_C) (V : Nat → Value), vwCl[ci]? = some r ∧ t_OB a (D.1 ci) r.2.2 (D.2 ci) H V ∧ ∀ k, k < r.2.2 → cn (V k) = vk (tyC ci k) h a k)
    ∧ (∀ t ty, gT g a = t + 20 → atys[t]? = some ty → ∃ F : Nat → Value, H[a]? = some (arrV (AK t) (gL g a) F) ∧ ∀ j, j < gL g a → cn (F j) = vk ty h a j)
/-- the words that a method hands on -/
def lw_G : List Cond := lw_tbl.filter goodWord
theorem gd {i : Nat} {w : Cond} (h : lw_tbl[i]? = some w) (hg : goodWord w = true) : w ∈ lw_G := List.mem_filter.mpr ⟨List.mem_of_getElem? h, hg⟩
/-- constants that nobody writes: what statics hold, by number; the contents, tags, lengths of their cells -/
abbrev EC : Type := (Nat → Value) × CT × MT
def sts : List (String × String × String) := [(RX12, "LATENCY", "[I"), (RX12, "OPS", "[LVectorPipes$Op;"), ("VectorPipes$1", "$SwitchMap$VectorPipes$Op", "[I"), ("java/lang/Math", "negativeZeroDoubleBits", "J"), ("java/lang/String", "COMPACT_STRINGS", "Z"),
  (RX5, "SETVL", "LVectorPipes$Op;"), (RX5, "IOTA", "LVectorPipes$Op;"), (RX5, "FILL", "LVectorPipes$Op;"), (RX5, "LOAD", "LVectorPipes$Op;"), (RX5, "STORE", "LVectorPipes$Op;"), (RX5, "GATHER", "LVectorPipes$Op;"), (RX5, "SCATTER", "LVectorPipes$Op;"), (RX5, "ADD", "LVectorPipes$Op;"), (RX5, "SUB", "LVectorPipes$Op;"), (RX5, "MUL", "LVectorPipes$Op;"), (RX5, "DIV", "LVectorPipes$Op;"), (RX5, "REM", "LVectorPipes$Op;"), (RX5, "MIN", "LVectorPipes$Op;"), (RX5, "MAX", "LVectorPipes$Op;"), (RX5, "COPY", "LVectorPipes$Op;"), (RX5, "SINGLE", "LVectorPipes$Op;"), (RX5, "WHOLE", "LVectorPipes$Op;"), (RX5, "LESS", "LVectorPipes$Op;"), (RX5, "SAME", "LVectorPipes$Op;"), (RX5, "ODD", "LVectorPipes$Op;"), (RX5, "FLIP", "LVectorPipes$Op;"), (RX5, "PACK", "LVectorPipes$Op;"), (RX5, "COUNT", "LVectorPipes$Op;"), (RX5, "FOLD", "LVectorPipes$Op;"), (RX5, "TOP", "LVectorPipes$Op;"), (RX5, "STRIP", "LVectorPipes$Op;"), (RX5, "STOP", "LVectorPipes$Op;"), (RX5, "END", "LVectorPipes$Op;"), ("jdk/internal/util/Preconditions", "SIOOBE_FORMATTER", "Ljava/util/function/BiFunction;")]
def opf : List (String × String × String × FieldType) := [("java/lang/Enum", "ordinal", "I", .int), (RX5, "ways", "I", .int), (RX5, "unit", "I", .int), (RX5, "called", "Ljava/lang/String;", .object "java/lang/String"), (RX5, "form", "Ljava/lang/String;", .object "java/lang/String")]
def stf : List (String × String × String × FieldType) := [("java/lang/String", "value", "[B", .array .byte), ("java/lang/String", "coder", "B", .byte)]
abbrev ktys : List FieldType := [.int, .long, .double, .byte, .boolean, .object RX5]
def KF (B : Nat) (E : EC) (U : State) : Prop :=
  (∀ (i : Nat) (q : String × String × String), sts[i]? = some q → va_Z q.1 q.2.1 q.2.2 (E.1 i) (fun a => B ≤ a) U U.heap) ∧
  (∀ a, gT E.2.2 a = 60 → va_O RX5 a (fun a => B ≤ a) U U.heap ∧ ∀ (k : Nat) (q : String × String × String × FieldType), opf[k]? = some q → va_OF q.1 q.2.1 q.2.2.1 (vk q.2.2.2 E.2.1 a k) a (fun a => B ≤ a) U U.heap) ∧
  (∀ a, gT E.2.2 a = 61 → va_O "java/lang/String" a (fun a => B ≤ a) U U.heap ∧ ∀ (k : Nat) (q : String × String × String × FieldType), stf[k]? = some q → va_OF q.1 q.2.1 q.2.2.1 (vk q.2.2.2 E.2.1 a k) a (fun a => B ≤ a) U U.heap) ∧
  (∀ (a t : Nat) (ty : FieldType), gT E.2.2 a = t + 20 → ktys[t]? = some ty → va_T ty a (gL E.2.2 a) (fun j => vk ty E.2.1 a j) (fun a => B ≤ a) U U.heap)
theorem KF.next {B : Nat} {E : EC} {u U : State} (hvm : u.vm.Alike U.vm) (hq : ∀ a : Nat, a < u.heap.size → ¬ B ≤ a → U.heap[a]? = u.heap[a]?) (h : KF B E u) : KF B E U := by
  obtain ⟨h1, h2, h3, h4⟩ := h
  refine ⟨fun i q hi => ((h1 i q hi).moved hvm).kept hq, fun a ha => ⟨((h2 a ha).1.moved hvm).kept hq, fun k q hk => (((h2 a ha).2 k q hk).moved hvm).kept hq⟩, fun a ha => ⟨((h3 a ha).1.moved hvm).kept hq, fun k q hk => (((h3 a ha).2 k q hk).moved hvm).kept hq⟩, fun a t ty ha hk => ((h4 a t ty ha hk).moved hvm).kept hq⟩
/-- links between nest mates, classes of arrays of references: facts of the tables that are told beside the words -/
def sld : List (String × Nat × String) := [(RX6, 22, ""), (RX6, 115, "masked"), (RX6, 124, "at"), (RX6, 126, "by"), (RX6, 128, "of")]
def KN (E : EC) (U : State) : Prop :=
  (∀ (i : Nat) (q : String × Nat × String), sld[i]? = some q → ∃ a, E.1 (50 + i) = .ref a ∧ vk_R q.1 q.2.1 q.2.2 a U) ∧
  (va_AO RX11 U ∧ va_AO RX8 U ∧ va_AO RX2 U ∧ va_AO RX3 U) ∧ va_Nw (.methodLinkNest RX9 26 yX4_init RX12) U ∧ va_Nw (.methodLinkNest RX12 76 yX4_init RX12) U ∧ va_Nw (.fieldLinkNest RX10 18 RX12 "LATENCY" "[I" RX12) U ∧ va_Nw (.fieldLinkNest RX6 163 RX12 "OPS" "[LVectorPipes$Op;" RX12) U ∧ va_Nw (.fieldLinkNest RX5 123 RX12 "LATENCY" "[I" RX12) U
theorem KN.warm {E : EC} {s U : State} (hW : s.WarmedH U.vm) (h : KN E s) : KN E U := by
  obtain ⟨hs, ⟨a1, a2, a3, a4⟩, h1, h2, h3, h4, h5⟩ := h
  exact ⟨fun i q hq => by obtain ⟨a, e, r⟩ := hs i q hq; exact ⟨a, e, r.warm hW⟩, ⟨a1.moved hW.alike, a2.moved hW.alike, a3.moved hW.alike, a4.moved hW.alike⟩, va_Nw.warmM hW h1, va_Nw.warmM hW h2, va_Nw.warmF hW h3, va_Nw.warmF hW h4, va_Nw.warmF hW h5⟩
theorem KN.same {E : EC} {u U : State} (hv : u.vm = U.vm) (h : KN E u) : KN E U := by
  obtain ⟨hs, ⟨a1, a2, a3, a4⟩, h1, h2, h3, h4, h5⟩ := h
  exact ⟨fun i q hq => by obtain ⟨a, e, r⟩ := hs i q hq; exact ⟨a, e, r.same hv.symm⟩, ⟨a1.moved (hv ▸ Vm.Alike.refl _), a2.moved (hv ▸ Vm.Alike.refl _), a3.moved (hv ▸ Vm.Alike.refl _), a4.moved (hv ▸ Vm.Alike.refl _)⟩, h1.same rfl hv, h2.same rfl hv, h3.same rfl hv, h4.same rfl hv, h5.same rfl hv⟩
-- what a walk stands in
abbrev Cx : Type := Program × Launch × Env × Room × State × MethodId × Array Value × List Frame × Method × Code × (State → Prop) × va_G × (Nat → ClassId) × Nat × Nat × Nat × Nat × EC
abbrev xp (X : Cx) : Program := X.1
abbrev xl (X : Cx) : Launch := X.2.1
abbrev xe (X : Cx) : Env := X.2.2.1
abbrev xR (X : Cx) : Room := X.2.2.2.1
abbrev xs (X : Cx) : State := X.2.2.2.2.1
abbrev xm (X : Cx) : MethodId := X.2.2.2.2.2.1
abbrev xa (X : Cx) : Array Value := X.2.2.2.2.2.2.1
abbrev xb (X : Cx) : List Frame := X.2.2.2.2.2.2.2.1
abbrev xh (X : Cx) : Method := X.2.2.2.2.2.2.2.2.1
abbrev xc (X : Cx) : Code := X.2.2.2.2.2.2.2.2.2.1
abbrev xQ (X : Cx) : State → Prop := X.2.2.2.2.2.2.2.2.2.2.1
abbrev xD (X : Cx) : va_G := X.2.2.2.2.2.2.2.2.2.2.2.1
abbrev xK (X : Cx) : Nat → ClassId := X.2.2.2.2.2.2.2.2.2.2.2.2.1
abbrev xB (X : Cx) : Nat := X.2.2.2.2.2.2.2.2.2.2.2.2.2.1
abbrev xL (X : Cx) : Nat := X.2.2.2.2.2.2.2.2.2.2.2.2.2.2.1
abbrev xN (X : Cx) : Nat := X.2.2.2.2.2.2.2.2.2.2.2.2.2.2.2.1
abbrev xU (X : Cx) : Nat := X.2.2.2.2.2.2.2.2.2.2.2.2.2.2.2.2.1
abbrev xk (X : Cx) : EC := X.2.2.2.2.2.2.2.2.2.2.2.2.2.2.2.2.2
def cq (q : Nat × Value) : Nat × Value := (q.1, cn q.2)
def lvc (ls : Array Slot) (nL : Nat) (lv : List (Nat × Value)) : Prop := ∃ lv' : List (Nat × Value), lv_has ls nL lv' ∧ lv'.map cq = lv
/-- the walk goes on to its end from here: at pc, with these locals, this stack, in every machine heap that these contents are the image of -/
def J (X : Cx) (g : MT) (h : CT) (pc : Nat) (lv : List (Nat × Value)) (st : List Value) : Prop :=
  ∀ (H : Heap) (locs : List Loc) (ls : Array Slot) (st' : List Value) (d0 : Drawn), (xs X).drawn.sameBut d0 lw_cs → Img (xB X) (xD X) (xK X) g h H → va_S (fun q => xB X ≤ q) (xs X).heap H locs → lvc ls (xL X) lv → st'.map cn = st →
    W (xp X) (xl X) (xe X) (xR X) ((xs X).setDrawn d0) (xm X) (xa X) (xb X) (xh X) (xc X) H locs (gN g - xN X) (gU g - xU X) (xQ X) (F0 (xm X) pc ls st')
/-- the walk's fixed facts -/
def Fx (X : Cx) (cc : ByteArray) (own : String) : Prop :=
  (xp X).tables.exec = Jvm.exec ∧ (xc X).code = cc ∧ (xc X).maxLocals = xL X ∧ (xs X).vm.findClass own = some (xm X).cls ∧ (∀ w ∈ lw_G, w.before (xa X) (xs X) = true) ∧ va_K (xD X) vwCl (tysAll (xK X)) (xs X) ∧ xB X ≤ (xs X).heap.size ∧ (xh X).locks = false ∧ xN X = (xs X).heap.size ∧ KF (xB X) (xk X) (xs X) ∧ KN (xk X) (xs X)
theorem mc1 {st' st : List Value} {w : Value} (h : st'.map cn = w :: st) : ∃ v r, st' = v :: r ∧ cn v = w ∧ r.map cn = st := by
  cases st' with
  | nil => cases h
  | cons v r => exact ⟨v, r, rfl, (List.cons.inj h).1, (List.cons.inj h).2⟩
theorem lvc_at {ls : Array Slot} {nL : Nat} {lv : List (Nat × Value)} (h : lvc ls nL lv) (k : Nat) {i : Nat} {v : Value} (hk : lv[k]? = some (i, v)) : ∃ v', ls[i]? = some (.val v') ∧ cn v' = v := by
  obtain ⟨lv', h1, rfl⟩ := h
  rw [List.getElem?_map] at hk
  cases hq : lv'[k]? with
  | none => rw [hq] at hk; cases hk
  | some q =>
    rw [hq] at hk
    obtain ⟨a, b⟩ := q
    simp only [Option.map_some, Option.some.injEq, cq, Prod.mk.injEq] at hk
    obtain ⟨rfl, rfl⟩ := hk
    exact ⟨b, lv_at h1 k hq, rfl⟩
theorem lvc_sub {ls : Array Slot} {nL : Nat} {lv lv2 : List (Nat × Value)} (h : lvc ls nL lv) (ks : List Nat) (hl : lv_pick lv ks = lv2) : lvc ls nL lv2 := by
  obtain ⟨lv', h1, rfl⟩ := h
  refine ⟨lv_pick lv' ks, lv_sub h1 ks rfl, ?_⟩
  rw [← hl]
  unfold lv_pick
  rw [List.map_filterMap]
  congr 1
  funext k
  rw [List.getElem?_map]
theorem lvc_mk {ls : Array Slot} {nL : Nat} {lv : List (Nat × Value)} {i : Nat} {v : Value} (P : Nat × Value → Bool) (hP : ∀ q, P (cq q) = P q) {lv' : List (Nat × Value)} (h : lv'.map cq = lv) (h1 : lv_has ls nL ((i, v) :: lv'.filter P)) : lvc ls nL ((i, cn v) :: lv.filter P) := by
  refine ⟨_, h1, ?_⟩
  subst h
  rw [List.map_cons, List.filter_map]
  have : (P ∘ cq) = P := funext hP
  rw [this]
  rfl
theorem st1_P (i : Nat) (q : Nat × Value) : (fun q : Nat × Value => !(q.1 == i) && !(q.1 + 1 == i && q.2.category == 2)) (cq q) = (fun q : Nat × Value => !(q.1 == i) && !(q.1 + 1 == i && q.2.category == 2)) q := by simp [cq, cn_cat]
theorem st2_P (i : Nat) (q : Nat × Value) : (fun q : Nat × Value => !(q.1 == i) && (!(q.1 == i + 1) && !(q.1 + 1 == i && q.2.category == 2))) (cq q) = (fun q : Nat × Value => !(q.1 == i) && (!(q.1 == i + 1) && !(q.1 + 1 == i && q.2.category == 2))) q := by simp [cq, cn_cat]
/-- the locals behind a store of one word, of two -/
def ls1 (i : Nat) (v : Value) (lv : List (Nat × Value)) : List (Nat × Value) := (i, v) :: lv.filter (fun q => !(q.1 == i) && !(q.1 + 1 == i && q.2.category == 2))
def ls2 (i : Nat) (v : Value) (lv : List (Nat × Value)) : List (Nat × Value) := (i, v) :: lv.filter (fun q => !(q.1 == i) && (!(q.1 == i + 1) && !(q.1 + 1 == i && q.2.category == 2)))
section JR
variable {X : Cx} {cc : ByteArray} {own : String} {g : MT} {h : CT} {pc : Nat} {lv : List (Nat × Value)} {st : List Value}
theorem J_lv (ks : List Nat) {lv2 : List (Nat × Value)} (hl : lv_pick lv ks = lv2) (k : J X g h pc lv2 st) : J X g h pc lv st := fun H locs ls st' d0 a1 a2 a3 a4 a5 => k H locs ls st' d0 a1 a2 a3 (lvc_sub a4 ks hl) a5
end JR
