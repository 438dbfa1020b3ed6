/-! contracts over plain heaps, calls and returns -/
/-- what the fixed parts of all walks are: the addresses from which on cells are ours, the classes, the array classes, the constants -/
abbrev Gx : Type := Nat × va_G × (Nat → ClassId) × EC
def PcJ (G : Gx) (as : List Value) (g : MT) (h : CT) : Array Value → State → Prop := fun av U => ∃ as' : List Value, av = as'.toArray ∧ as'.map cn = as ∧ Img G.1 G.2.1 G.2.2.1 g h U.heap ∧ va_K G.2.1 vwCl (tysAll G.2.2.1) U ∧ G.1 ≤ U.heap.size ∧ KF G.1 G.2.2.2 U ∧ KN G.2.2.2 U
def QcJ (G : Gx) (r : Option Value) (g : MT) (h : CT) : Array Value → State → Outcome → State → Prop := fun _ st o t => (∃ v : Option Value, o = .returned v ∧ v.map cn = r ∧ Img G.1 G.2.1 G.2.2.1 g h t.heap) ∧ va_F (fun q => G.1 ≤ q) st t
abbrev rmJ (d : Nat) (g g' : MT) : Room := { frames := d, cells := gN g' - gN g, slots := gU g' - gU g, locals := 60 * d }
abbrev wsJ (y : MethodName) (cc : ByteArray) (maxL : Nat) (ret : Option FieldType) : List Cond := Cond.code y cc maxL ret :: lw_G
/-- METHOD y's CONTRACT: from the contents h with these arguments it comes back with r, the contents h' -/
def Ctr (G : Gx) (d : Nat) (y : MethodName) (cc : ByteArray) (maxL : Nat) (ret : Option FieldType) (as : List Value) (g : MT) (h : CT) (r : Option Value) (g' : MT) (h' : CT) : Prop :=
  ∀ l : Launch, MetD lw_cs l y (wsJ y cc maxL ret) (rmJ d g g') (PcJ G as g h) (QcJ G r g' h') (gN g' - gN g) (gU g' - gU g) (fun q => G.1 ≤ q)
theorem PcJ_blind (G : Gx) (as : List Value) (g : MT) (h : CT) : FrameBlind (PcJ G as g h) := by
  intro a U fr mk ⟨as', h1, h2, h3, h4, h5, h6, h7⟩
  exact ⟨as', h1, h2, h3, va_K.moved (u := U) (U := U.calling fr mk a) (Vm.Alike.refl U.vm) h4, h5, KF.next (u := U) (U := U.calling fr mk a) (Vm.Alike.refl U.vm) (fun _ _ _ => rfl) h6, KN.same (u := U) (U := U.calling fr mk a) rfl h7⟩
/-- the walk's end: with this answer, over these contents -/
def RT (X : Cx) (G : Gx) (ret : Option FieldType) (r : Option Value) (g : MT) (h : CT) : Prop :=
  (xh X).sig.returnType = ret ∧ xQ X = MQD lw_cs (xb X) (QcJ G r g h) (xa X) (xs X) (gN g - xN X) (gU g - xU X) (fun q => xB X ≤ q) ∧ (xB X, xD X, xK X, xk X) = G
/-- a body that may draw, of a member that the machine has no entry for -/
theorem metD_ofF {cs : List Choice} {l : Launch} {y : MethodName} {ws ws' : List Cond} {rm : Room} {Pc : Array Value → State → Prop} {Qc : Array Value → State → Outcome → State → Prop} {mc ms : Nat} {free : Addr → Prop} {cc : ByteArray} {maxL : Nat} {ret : Option FieldType}
    (hy : plainFor y = true) (hw : ws = Cond.code y cc maxL ret :: ws')
    (body : ∀ p e s m args below meth c s₁, BodyLoose p l y (headSpec ws rm) cc maxL ret e s m args below meth c s₁ → c.maxLocals = maxL → Pc args s → s.drawn.sameBut s.drawn cs →
      W p l e (headSpec ws rm).room (s.setDrawn s.drawn) m args below meth c s.heap [] 0 0 (MQD cs below Qc args s mc ms free) (entryFrame m args maxL)) : MetD cs l y ws rm Pc Qc mc ms free := by
  refine MetFree.of_bodySF (code := cc) (maxLocals := maxL) (ret := ret) hy ?_ ?_
  · intro args s m h hn
    obtain ⟨meth, c, h1, h2, h3, h4, h5, h6, -, -⟩ := Cond.code_spec hn (atoms_spec (ws := ws) h _ (by rw [hw]; exact List.mem_cons_self))
    exact ⟨meth, c, h1, h2, h3, h4, h5, h6⟩
  · intro p e s m args below meth c s₁ B hml hP _
    have hh0 : s₁.heap = s.heap := by rw [B.state]; rfl
    have X0 : Stand p l e (headSpec ws rm).room (s.setDrawn s.drawn) m args below meth c s₁ [] 0 0 := Stand.of_body B
    obtain ⟨t, a1, d, hd, o, b1, b2, b3, b4⟩ := body p e s m args below meth c s₁ B hml hP (Drawn.sameBut.refl _ _) s₁ hh0 X0
    exact ⟨t, o, a1, b1, b2, d, hd, b3, b4⟩
/-- a method's body, walked from its entry -/
theorem Ctr.of {G : Gx} {d : Nat} {y : MethodName} {cc : ByteArray} {maxL : Nat} {ret : Option FieldType} {as : List Value} {g : MT} {h : CT} {r : Option Value} {g' : MT} {h' : CT}
    (hy : plainFor y = true) (hl : ((as.map fun v => v.category).sum ≤ maxL)) (hm : gN g ≤ gN g' ∧ gU g ≤ gU g')
    (body : ∀ X : Cx, Fx X cc y.cls → RM X g → xL X = maxL → (xR X).frames = d → (xR X).locals = 60 * d → (xh X).name = y.name → xN X = gN g → xU X = gU g → (xR X).cells = gN g' - gN g → (xR X).slots = gU g' - gU g → RT X G ret r g' h' → J X g h 0 (lv_args 0 as) []) : Ctr G d y cc maxL ret as g h r g' h' := by
  intro l
  refine metD_ofF (cc := cc) (maxL := maxL) (ret := ret) hy rfl ?_
  intro p e s m args below meth c s₁ B hml hv hd0
  obtain ⟨as', rfl, h2, h3, h4, h5, h6, h7⟩ := hv
  have hts : ∀ w ∈ lw_G, w.before as'.toArray s = true := fun w hw => atoms_spec (ws := wsJ y cc maxL ret) B.pre w (List.mem_cons_of_mem _ hw)
  have hnm : meth.name = y.name := (name_of_methodNamed B.named B.method).1
  have hsz : s.heap.size = gN g := h3.1
  have k := body (p, l, e, (rmJ d g g'), s, m, as'.toArray, below, meth, c, MQD lw_cs below (QcJ G r g' h') as'.toArray s (gN g' - gN g) (gU g' - gU g) (fun q => G.1 ≤ q), G.2.1, G.2.2.1, G.1, maxL, gN g, gU g, G.2.2.2)
    ⟨B.exec, B.bytes, hml, findClass_of_methodNamed B.named, hts, h4, h5, B.notSynchronized, hsz.symm, h6, h7⟩ ⟨by simp only [xN, xR, rmJ]; omega, by simp only [xU, xR, rmJ]; omega, Nat.le_refl _, Nat.le_refl _⟩ rfl rfl rfl hnm rfl rfl rfl rfl ⟨B.returns, rfl, rfl⟩
  have hcat : ∀ (ws : List Value), (lg_sl ws).length = (ws.map fun v => v.category).sum := by
    intro ws
    induction ws with
    | nil => rfl
    | cons a t ih =>
      have e : (lg_sl (a :: t)).length = (if a.category = 2 then [Slot.val a, Slot.second] else [Slot.val a]).length + (lg_sl t).length := by simp [lg_sl]
      rw [e, ih, List.map_cons, List.sum_cons]
      rcases lv_cat a with q | q <;> simp [q]
  have hsum : (as'.map fun v => v.category) = (as.map fun v => v.category) := by
    rw [← h2, List.map_map]
    exact List.map_congr_left fun v _ => (cn_cat v).symm
  have hargs : ∀ (ws : List Value) (n : Nat), (lv_args n ws).map cq = lv_args n (ws.map cn) := by
    intro ws
    induction ws with
    | nil => intro n; rfl
    | cons a t ih => intro n; simp [lv_args, cq, ih, cn_cat]
  rw [lg_entry_eq]
  have hle := lv_entry as' (n := maxL) (by rw [hcat, hsum]; exact hl)
  have kk := k s.heap [] _ [] s.drawn hd0 h3 va_S.rf ⟨_, hle, by rw [hargs, h2]⟩ rfl
  have c1 : gN g - gN g = 0 := Nat.sub_self _
  have c2 : gU g - gU g = 0 := Nat.sub_self _
  simp only [xN, xU, c1, c2] at kk
  exact kk
section JE
variable {X : Cx} {cc : ByteArray} {own : String} {g : MT} {h : CT} {pc : Nat} {lv : List (Nat × Value)} {G : Gx}
theorem rt_q {r : Option Value} (F : Fx X cc own) {H : Heap} {locs : List Loc} {d0 : Drawn} {v : Option Value} (hG : (xB X, xD X, xK X, xk X) = G) (hv : v.map cn = r) (a2 : Img (xB X) (xD X) (xK X) g h H) (a3 : va_S (fun q => xB X ≤ q) (xs X).heap H locs) :
    ∀ t : State, t.heap = H → ((xs X).setDrawn d0).WarmedH t.vm → QcJ G r g h (xa X) ((xs X).setDrawn d0) (.returned v) t := by
  intro t ht _
  subst hG
  exact ⟨⟨v, rfl, hv, by rw [ht]; exact a2⟩, va_S.F (s := (xs X).setDrawn d0) a3 ht⟩
theorem J_iret {x : Int32} (F : Fx X cc own) (Rt : RT X G (some .int) (some (.int x)) g h) (hd : decode cc pc = .ok (.ireturn, 1)) : J X g h pc lv [.int x] := by
  intro H locs ls st' d0 a1 a2 a3 a4 b0
  obtain ⟨w1, s2, rfl, e1, b1⟩ := mc1 b0
  cases cn_i e1
  cases s2 with
  | cons a t => cases b1
  | nil =>
    obtain ⟨r1, r2, r3⟩ := Rt
    rw [r2]
    exact W.endD a1 (W.iret F.1 F.2.1 r1 (rt_q F r3 rfl a2 a3) a3.2.2 hd F.2.2.2.2.2.2.2.1)
theorem J_zret {x : Int32} (F : Fx X cc own) (Rt : RT X G (some .boolean) (some (.int x)) g h) (hn : narrow .boolean (.int x) = .int x) (hd : decode cc pc = .ok (.ireturn, 1)) : J X g h pc lv [.int x] := by
  intro H locs ls st' d0 a1 a2 a3 a4 b0
  obtain ⟨w1, s2, rfl, e1, b1⟩ := mc1 b0
  cases cn_i e1
  cases s2 with
  | cons a t => cases b1
  | nil =>
    obtain ⟨r1, r2, r3⟩ := Rt
    rw [r2]
    exact W.endD a1 (W.zret F.1 F.2.1 r1 hn (rt_q F r3 rfl a2 a3) a3.2.2 hd F.2.2.2.2.2.2.2.1)
theorem J_lret {x : Int64} (F : Fx X cc own) (Rt : RT X G (some .long) (some (.long x)) g h) (hd : decode cc pc = .ok (.lreturn, 1)) : J X g h pc lv [.long x] := by
  intro H locs ls st' d0 a1 a2 a3 a4 b0
  obtain ⟨w1, s2, rfl, e1, b1⟩ := mc1 b0
  cases cn_l e1
  cases s2 with
  | cons a t => cases b1
  | nil =>
    obtain ⟨r1, r2, r3⟩ := Rt
    rw [r2]
    exact W.endD a1 (W.lret F.1 F.2.1 r1 (rt_q F r3 rfl a2 a3) a3.2.2 hd F.2.2.2.2.2.2.2.1)
theorem J_dret {x : UInt64} (F : Fx X cc own) (Rt : RT X G (some .double) (some (.double x)) g h) (hd : decode cc pc = .ok (.dreturn, 1)) : J X g h pc lv [.double x] := by
  intro H locs ls st' d0 a1 a2 a3 a4 b0
  obtain ⟨w1, s2, rfl, e1, b1⟩ := mc1 b0
  obtain ⟨u, rfl, rfl⟩ := cn_d e1
  cases s2 with
  | cons a t => cases b1
  | nil =>
    obtain ⟨r1, r2, r3⟩ := Rt
    rw [r2]
    exact W.endD a1 (W.dret F.1 F.2.1 r1 (rt_q F r3 rfl a2 a3) a3.2.2 hd F.2.2.2.2.2.2.2.1)
theorem J_vret (F : Fx X cc own) (Rt : RT X G none none g h) (hd : decode cc pc = .ok (.return_, 1)) : J X g h pc lv [] := by
  intro H locs ls st' d0 a1 a2 a3 a4 b0
  cases st' with
  | cons a t => cases b0
  | nil =>
    obtain ⟨r1, r2, r3⟩ := Rt
    rw [r2]
    exact W.endD a1 (W.vret F.1 F.2.1 r1 (rt_q F r3 rfl a2 a3) a3.2.2 hd F.2.2.2.2.2.2.2.1)
theorem J_aret {x : Option Nat} {C : String} (F : Fx X cc own) (Rt : RT X G (some (.object C)) (some (va_rf x)) g h) (hd : decode cc pc = .ok (.areturn, 1)) : J X g h pc lv [va_rf x] := by
  intro H locs ls st' d0 a1 a2 a3 a4 b0
  obtain ⟨w1, s2, rfl, e1, b1⟩ := mc1 b0
  cases cn_q e1
  cases s2 with
  | cons a t => cases b1
  | nil =>
    obtain ⟨r1, r2, r3⟩ := Rt
    rw [r2]
    exact W.endD a1 (W.aret F.1 F.2.1 r1 (Or.inl ⟨C, rfl⟩) (by cases x; exact Or.inl rfl; exact Or.inr ⟨_, rfl⟩) (rt_q F r3 (by cases x <;> rfl) a2 a3) a3.2.2 hd F.2.2.2.2.2.2.2.1)
end JE
