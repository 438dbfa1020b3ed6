/-! THE CLAIM OUT OF ONE WALK OF THE LAW'S BODY. Your part is whole_start (and what it stands on); all else here is the same for every law, but numbers. -/
def R_law : String := "VectorPipesLaw"
def lw_P (b : Addr) (xs : List Int32) (args : Array Value) (s : State) : Prop := args = #[.ref b] ∧ s.IntsAt b xs ∧ xs.length ≤ 3072 ∧ (Jvm.Cond.and given_1 narrow_1).before args s = true
/-- what a walk over the start with the record d0 says of its end, said of the start itself -/
theorem lw_closed {s t : State} {o : Outcome} {d0 : Drawn} {L : List Loc} {k n : Nat} (hd0 : s.drawn.sameBut d0 lw_cs) (hv : ∃ v, o = .returned v) (hW : (s.setDrawn d0).WarmedH t.vm) (hs : (s.setDrawn d0).sameButNew ({ t with vm := s.vm } : State) L k n) : State.butDraws s t lw_cs (fun t1 => Framed s o t1 L k n) := by
  have h2 : t.drawn = d0 := congrArg State.drawn hs.1
  refine ⟨⟨hv, hW, State.sameButNew.setDrawn hs s.drawn⟩, ?_, by decide⟩
  rw [h2]
  exact hd0
def lw_Q (_ : Array Value) (s : State) (o : Outcome) (t : State) : Prop := o = .returned (some (.int 1)) ∧ State.butDraws s t lw_cs (fun t1 => Framed s o t1 [] 600000 7302250)
def lw_Z (below : List Frame) (a : Array Value) (s : State) : State → Prop := fun t => ∃ o, t.status = .running ∧ Ended t below o ∧ lw_Q a s o t
/-- the law's own end, with 1 on the stack, nothing written that was there before, its room as the claim has it; d0: the record of draws at this point (at the entry s.drawn: begin with 'refine W.base ?_' and 'have hd0 := Drawn.sameBut.refl s.drawn lw_cs') -/
theorem lw_ret {p : Program} {l : Launch} {e : Env} {s : State} {m : MethodId} {below : List Frame} {meth : Method} {c : Code} {b : Nat} {d0 : Drawn} (hd0 : s.drawn.sameBut d0 lw_cs) (hx : p.tables.exec = Jvm.exec) (hb : c.code = code) (hr : meth.sig.returnType = ret) (hlocks : meth.locks = false) {pc : Nat} {H : Heap} {ls : Array Slot} (hdg : decode code pc = .ok (.ireturn, 1)) : W p l e room_1 (s.setDrawn d0) m #[Value.ref b] below meth c H [] 600000 7302250 (lw_Z below #[Value.ref b] s) (F0 m pc ls [.int 1]) := by
  intro T hT X
  obtain ⟨fs, hret, hrun, hended, hW, hframe⟩ := X.leave (v := some (.int 1)) (hlocks := hlocks) (fun h => by rw [hr] at h; cases h)
  have hmeth' : T.vm.method? m = some meth := X.method'
  refine ⟨T.setFrames fs, ?_, .returned (some (.int 1)), hrun, hended, rfl, lw_closed hd0 ⟨_, rfl⟩ hW hframe⟩
  jvm_step X.here [X.here.top, hx, hb, hdg, hmeth', hr, ret, narrow_b1]
  (try refine ⟨rfl, ?_⟩); (try refine ⟨rfl, ?_⟩)
  first | (intro acts; rw [hret _ acts rfl rfl rfl]) | rw [hret _ _ rfl rfl rfl]
  exact Steps.refl _
/-- what holds at the law's entry: the machine, the code, the tables' words (any of lw_tbl by 'hts w (by decide +kernel)'), the script of L ints xs at the cell b, what the Statement gives of the start (any of its parts by flat_of_before) -/
def lw_At (p : Program) (s : State) (m : MethodId) (meth : Method) (c : Code) (b L : Nat) (xs : Nat → Int32) : Prop :=
  p.tables.exec = Jvm.exec ∧ c.code = code ∧ meth.sig.returnType = ret ∧ c.maxLocals = 4 ∧ s.vm.findClass R_law = some m.cls ∧ (∀ w ∈ lw_tbl, w.before #[Value.ref b] s = true) ∧ va_X b L xs s s.heap ∧ b < s.heap.size ∧ meth.locks = false ∧ (Jvm.Cond.and given_1 narrow_1).before #[Value.ref b] s = true
-- what the law's own walk stands in
def Zw (X : Cx) (G : Gx) (dk b : Nat) (g' : MT) (h' : CT) : Prop :=
  Fx X cL_law R_law ∧ xL X = 4 ∧ (xR X = room_1 ∧ dk ≤ 1390) ∧ ((xh X).sig.returnType = ret ∧ xQ X = lw_Z (xb X) #[Value.ref b] (xs X) ∧ xa X = #[Value.ref b]) ∧ ((xB X, xD X, xK X, xk X) = G ∧ xB X = (xs X).heap.size) ∧ gN g' ≤ xN X + 600000 ∧ gU g' ≤ xU X + 7302250
section ZW
variable {X : Cx} {G : Gx} {dk b : Nat} {g g1 g' : MT} {h h' : CT}
theorem wL {i : Nat} (Z : Zw X G dk b g' h') (h : i < 4) : i < xL X := by rw [Z.2.1]; exact h
theorem wF {d : Nat} (Z : Zw X G dk b g' h') (h : d + 1 ≤ dk) : d + 1 ≤ (xR X).frames := by rw [Z.2.2.1.1]; have := Z.2.2.1.2; show d + 1 ≤ 2048; omega
theorem wO {d m : Nat} (Z : Zw X G dk b g' h') (h : d + 1 ≤ dk) (hm : m ≤ 41) : 8 + (m + 11) + 60 * d ≤ (xR X).locals := by rw [Z.2.2.1.1]; have := Z.2.2.1.2; show _ ≤ 84000; omega
theorem wG (Z : Zw X G dk b g' h') : (xB X, xD X, xK X, xk X) = G := Z.2.2.2.2.1.1
theorem wE {E : EC} (Z : Zw X G dk b g' h') (hE : G.2.2.2 = E) : xk X = E := by rw [← hE, ← wG Z]
theorem wEv {E : EC} (Z : Zw X G dk b g' h') (hE : G.2.2.2 = E) {i : Nat} {v : Value} (h : E.1 i = v) : (xk X).1 i = v := by rw [wE Z hE]; exact h
theorem wmA {t n : Nat} (Z : Zw X G dk b g' h') (M : RM X g) (h : gN (gA g t n) ≤ gN g' ∧ gU (gA g t n) ≤ gU g') : RM X (gA g t n) := by
  obtain ⟨-, -, hR, -, -, c1, c2⟩ := Z
  obtain ⟨-, -, m3, m4⟩ := M
  refine ⟨by rw [hR.1]; exact Nat.le_trans h.1 c1, by rw [hR.1]; exact Nat.le_trans h.2 c2, ?_, ?_⟩
  · simp only [gA, gN] at m3 ⊢; omega
  · simp only [gA, gU] at m4 ⊢; omega
theorem wmC (Z : Zw X G dk b g' h') (M : RM X g) (ho : gN g ≤ gN g1 ∧ gU g ≤ gU g1) (h : gN g1 ≤ gN g' ∧ gU g1 ≤ gU g') : RM X g1 := by
  obtain ⟨-, -, hR, -, -, c1, c2⟩ := Z
  obtain ⟨-, -, m3, m4⟩ := M
  exact ⟨by rw [hR.1]; exact Nat.le_trans h.1 c1, by rw [hR.1]; exact Nat.le_trans h.2 c2, Nat.le_trans m3 ho.1, Nat.le_trans m4 ho.2⟩
theorem J_wret {pc : Nat} {lv : List (Nat × Value)} (Z : Zw X G dk b g h) (hd : decode cL_law pc = .ok (.ireturn, 1)) : J X g h pc lv [.int 1] := by
  intro H locs ls st' d0 a1 a2 a3 a4 b0
  obtain ⟨w1, s2, rfl, e1, b1⟩ := mc1 b0
  cases cn_i e1
  cases s2 with
  | cons a t => cases b1
  | nil =>
    obtain ⟨F, -, hR, ⟨r1, r2, r3⟩, ⟨-, hB⟩, c1, c2⟩ := Z
    refine va_forget (s := (xs X).setDrawn d0) (fun q hq => ?_) ?_
    · have := a3.2.2 q hq
      show (xs X).heap.size ≤ q.base
      rw [← hB]
      exact this
    · refine W.widen (k := 600000) (n := 7302250) (by omega) (by omega) ?_
      rw [r2, r3, hR.1]
      exact lw_ret a1 F.1 F.2.1 r1 F.2.2.2.2.2.2.2.1 hd
end ZW
