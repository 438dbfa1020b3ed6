/-! rows of J: constants, native bits, nest mates, arrays of references -/
section JK
variable {X : Cx} {cc : ByteArray} {own : String} {g : MT} {h : CT} {pc : Nat} {lv : List (Nat × Value)} {st : List Value} {a index : Nat}
theorem J_gets {i : Nat} {q : String × String × String} {v : Value} (F : Fx X cc own) (hd : decode cc pc = .ok (.getstatic index, 3)) (hq : sts[i]? = some q) (hw : Cond.fieldLink own index q.1 q.2.1 q.2.2 ∈ lw_G) (hv : (xk X).1 i = v) (hc : cn v = v) (kk : J X g h (pc + 3) lv (v :: st)) : J X g h pc lv st := by
  intro H locs ls st' d0 a1 a2 a3 a4 b0
  have hZ := F.2.2.2.2.2.2.2.2.2.1.1 i q hq
  exact va_gets (s := (xs X).setDrawn d0) F.1 F.2.1 hZ a3 F.2.2.2.1 (dr_words F.2.2.2.2.1 d0 _ hw) (fun x hx => hx) hd (kk H locs ls _ d0 a1 a2 a3 a4 (by rw [List.map_cons, b0, hv, hc]))
theorem cnD_num {y : UInt64} (h : FP.dIsNaN (cnD y) = false) : cnD y = y := by
  rw [nan_cnD] at h
  simp [cnD, h]
theorem J_raw {x : UInt64} (F : Fx X cc own) (hd : decode cc pc = .ok (.invokestatic index, 3)) (w1 : Cond.methodLink own index ⟨"java/lang/Double", "doubleToRawLongBits", "(D)J"⟩ ∈ lw_G) (w2 : Cond.native ⟨"java/lang/Double", "doubleToRawLongBits", "(D)J"⟩ ∈ lw_G) (w3 : Cond.static ⟨"java/lang/Double", "doubleToRawLongBits", "(D)J"⟩ ∈ lw_G) (w4 : Cond.initialized "java/lang/Double" ∈ lw_G) (hfr : 1 ≤ (xR X).frames) (hlo : (st.map fun v => v.category).sum + 15 ≤ (xR X).locals) (hx : FP.dIsNaN x = false) (kk : J X g h (pc + 3) lv (.long x.toInt64 :: st)) : J X g h pc lv (.double x :: st) := by
  intro H locs ls st' d0 a1 a2 a3 a4 b0
  obtain ⟨w0, q, rfl, e0, hq⟩ := mc1 b0
  obtain ⟨y, rfl, rfl⟩ := cn_d e0
  rw [cnD_num hx] at kk
  have hts := dr_words F.2.2.2.2.1 d0
  have e : (q.map fun v => v.category) = (st.map fun v => v.category) := by rw [← hq, List.map_map]; exact List.map_congr_left fun v _ => (cn_cat v).symm
  exact vn_d2l (s := (xs X).setDrawn d0) F.1 F.2.1 (F.2.2.1.trans a4.choose_spec.1.1.symm) F.2.2.2.1 (hts _ w1) (hts _ w2) (hts _ w3) (hts _ w4) hfr (by rw [e]; exact hlo) hd (kk H locs ls _ d0 a1 a2 a3 a4 (by rw [List.map_cons, hq]; rfl))
/-- a new array of references -/
theorem J_newq {t N : Nat} {C : String} {n : Int32} (F : Fx X cc own) (hd : decode cc pc = .ok (.anewarray index, 3)) (hc : atys[t]? = some (.object C)) (w1 : Cond.classLink own index C ∈ lw_G) (hao : va_AO C (xs X)) (hn : ¬ n < 0) (hN : n.toNatClampNeg = N) (hb : N * 4 ≤ 536870912) (M0 : RM X g) (M : RM X (gA g (t + 20) N)) (kk : J X (gA g (t + 20) N) (hZ h (gN g)) (pc + 3) lv (va_rf (some (gN g)) :: st)) : J X g h pc lv (.int n :: st) := by
  intro H locs ls st' d0 a1 a2 a3 a4 b0
  obtain ⟨w2, s2, rfl, e1, b1⟩ := mc1 b0
  cases cn_i e1
  subst hN
  have hts := F.2.2.2.2.1
  have hNN := a2.1
  obtain ⟨m1, m2, m3, m4⟩ := M0
  obtain ⟨n1, n2, -, -⟩ := M
  simp only [gA, gN, gU] at n1 n2 m1 m2 m3 m4 hNN
  have hB : xB X ≤ H.size := Nat.le_trans F.2.2.2.2.2.2.1 a3.1
  have hao2 : (Cond.arrayOver (.object C)).before (xa X) ((xs X).setDrawn d0) = true := va_AO.use (U := (xs X).setDrawn d0) hao
  refine W.anew (s := (xs X).setDrawn d0) F.1 F.2.1 F.2.2.2.1 (dr_words hts d0 _ w1) hao2 rfl hd rfl hn hb (by simp only [gN]; omega) (by simp only [gU]; omega) fun cA kA comp f1 f2 f3 f4 => ?_
  have hRA := (F.2.2.2.2.2.1.2 t _ (tys_at hc)).2
  obtain ⟨kA', comp', k1, k2, k3, k4⟩ := hRA
  have hcA : cA = (xK X) t := Option.some.inj (f1.symm.trans k4)
  subst hcA
  generalize hH1 : H.push ({ cls := (xK X) t, slots := Array.replicate n.toNatClampNeg .null, vm := .none } : Cell) = H1
  have z1 : H1.size = H.size + 1 := by rw [← hH1, Array.size_push]
  have e1 : H1[H.size]? = some (arrV ((xK X) t) n.toNatClampNeg (fun _ => .null)) := by rw [← hH1, Array.getElem?_push_size, ← arrV_new]
  have o1 : ∀ q : Nat, q < H.size → H1[q]? = H[q]? := fun q hq => by rw [← hH1, Array.getElem?_push, if_neg (Nat.ne_of_lt hq)]
  have k2 := kk H1 locs ls (.ref (gN g) :: s2) d0 a1 (Im_newa a2 hB hc (fun q => by cases q) z1 o1 e1) ⟨by have := a3.1; omega, fun x h1 h2 => (o1 x (Nat.lt_of_lt_of_le h1 a3.1)).trans (a3.2.1 x h1 h2), a3.2.2⟩ a4 (by rw [List.map_cons, b1]; rfl)
  have c1 : gN (gA g (t + 20) n.toNatClampNeg) - xN X = gN g - xN X + 1 := by simp only [gA, gN]; omega
  have c2 : gU (gA g (t + 20) n.toNatClampNeg) - xU X = gU g - xU X + n.toNatClampNeg := by simp only [gA, gU]; omega
  rw [c1, c2] at k2
  have hN' : H.size = gN g := a2.1
  rw [hN']
  exact k2
end JK
def kL {α : Type} (v : Value) (k : Int64 → Option α) : Option α := match v with
  | .long x => k x
  | _ => none
def kI {α : Type} (v : Value) (k : Int32 → Option α) : Option α := match v with
  | .int x => k x
  | _ => none
def kR {α : Type} (v : Value) (k : Nat → Option α) : Option α := match v with
  | .ref x => k x
  | _ => none
def nq {α : Type} (x : UInt64) (k : Option α) : Option α := if FP.dIsNaN x = true then none else k
theorem kL_i {α : Type} {v : Value} {k : Int64 → Option α} {x : α} (h : kL v k = some x) : ∃ y, v = .long y ∧ k y = some x := by
  cases v <;> first | exact ⟨_, rfl, h⟩ | cases h
theorem kI_i {α : Type} {v : Value} {k : Int32 → Option α} {x : α} (h : kI v k = some x) : ∃ y, v = .int y ∧ k y = some x := by
  cases v <;> first | exact ⟨_, rfl, h⟩ | cases h
theorem kR_i {α : Type} {v : Value} {k : Nat → Option α} {x : α} (h : kR v k = some x) : ∃ y, v = .ref y ∧ k y = some x := by
  cases v <;> first | exact ⟨_, rfl, h⟩ | cases h
theorem nq_i {α : Type} {y : UInt64} {k : Option α} {x : α} (h : nq y k = some x) : FP.dIsNaN y = false ∧ k = some x := by
  unfold nq at h
  split at h
  · cases h
  · exact ⟨by simpa using ‹¬ FP.dIsNaN y = true›, h⟩
section ZE
variable {X : Cx} {G : Gx} {cc : ByteArray} {own : String} {maxL dk : Nat} {ret : Option FieldType} {r : Option Value} {g : MT} {h' : CT} {E : EC}
theorem zE (Z : Zx X G cc own maxL dk ret r g h') (hE : G.2.2.2 = E) : xk X = E := by rw [← hE, ← zG Z]
theorem zEv (Z : Zx X G cc own maxL dk ret r g h') (hE : G.2.2.2 = E) {i : Nat} {v : Value} (h : E.1 i = v) : (xk X).1 i = v := by rw [zE Z hE]; exact h
theorem zO1 {n : Nat} (Z : Zx X G cc own maxL dk ret r g h') (h : 1 ≤ dk) (hs : n ≤ 8) : n + 15 ≤ (xR X).locals := by rw [Z.2.2.2.2.1]; omega
end ZE
/-- how deep methods that call themselves may go -/
def RFUEL : Nat := 40
theorem alike_cn {a b : UInt64} (h : alike64 a b = true) : cnD a = cnD b := cnD_alike h
def fmax (x y : UInt64) : UInt64 := cnD (Free.Fl.Abs.maxDOf x y)
def fmin (x y : UInt64) : UInt64 := cnD (Free.Fl.Abs.minDOf x y)
theorem fmax_cn (a b : UInt64) : cnD (Free.Fl.Abs.maxDOf (cnD a) (cnD b)) = cnD (Free.Fl.Abs.maxDOf a b) := by
  by_cases ha : FP.dIsNaN a = true
  · exact cnD_nan (by simp [Free.Fl.Abs.maxDOf, nan_cnD, ha]) (by simp [Free.Fl.Abs.maxDOf, ha])
  · have e : cnD a = a := by simp [cnD, ha]
    rw [e]
    by_cases hb : FP.dIsNaN b = true
    · exact cnD_nan (by simp [Free.Fl.Abs.maxDOf, nan_cnD, ha, hb]) (by simp [Free.Fl.Abs.maxDOf, ha, hb])
    · rw [show cnD b = b from by simp [cnD, hb]]
theorem fmin_cn (a b : UInt64) : cnD (Free.Fl.Abs.minDOf (cnD a) (cnD b)) = cnD (Free.Fl.Abs.minDOf a b) := by
  by_cases ha : FP.dIsNaN a = true
  · exact cnD_nan (by simp [Free.Fl.Abs.minDOf, nan_cnD, ha]) (by simp [Free.Fl.Abs.minDOf, ha])
  · have e : cnD a = a := by simp [cnD, ha]
    rw [e]
    by_cases hb : FP.dIsNaN b = true
    · exact cnD_nan (by simp [Free.Fl.Abs.minDOf, nan_cnD, ha, hb]) (by simp [Free.Fl.Abs.minDOf, ha, hb])
    · rw [show cnD b = b from by simp [cnD, hb]]
section JM
variable {X : Cx} {cc : ByteArray} {own : String} {g : MT} {h : CT} {pc : Nat} {lv : List (Nat × Value)} {st : List Value} {index : Nat}
theorem J_dmax {x y : UInt64} (F : Fx X cc own) (hd : decode cc pc = .ok (.invokestatic index, 3)) (w1 : Cond.methodLink own index Free.Fl.Abs.maxDN ∈ lw_G) (w2 : Cond.static Free.Fl.Abs.maxDN ∈ lw_G) (w3 : Cond.initialized "java/lang/Math" ∈ lw_G) (w4 : Cond.code Free.Fl.Abs.maxDN Free.Fl.Abs.maxDCode 4 (some .double) ∈ lw_G) (M : RM X g) (hfr : 1 ≤ (xR X).frames) (hlo : (st.map fun v => v.category).sum + 15 ≤ (xR X).locals) (kk : J X g h (pc + 3) lv (.double (fmax x y) :: st)) : J X g h pc lv (.double y :: .double x :: st) := by
  intro H locs ls st' d0 a1 a2 a3 a4 b0
  obtain ⟨v0, q0, rfl, e0, h0⟩ := mc1 b0
  obtain ⟨v1, q, rfl, e1, hq⟩ := mc1 h0
  obtain ⟨y', rfl, rfl⟩ := cn_d e0
  obtain ⟨x', rfl, rfl⟩ := cn_d e1
  have hts := dr_words F.2.2.2.2.1 d0
  have e : (q.map fun v => v.category) = (st.map fun v => v.category) := by rw [← hq, List.map_map]; exact List.map_congr_left fun v _ => (cn_cat v).symm
  obtain ⟨m1, m2, m3, m4⟩ := M
  intro T hT S
  obtain ⟨w, d', vm1, hal, hdr, S', st1⟩ := Stand.mathMaxD S F.1 F.2.2.2.1 (hts _ w1) (hts _ w2) (hts _ w3) (hts _ w4) (g := F0 (xm X) pc ls (.double y' :: .double x' :: q)) rfl (a4.choose_spec.1.1.trans F.2.2.1.symm) rfl (by rw [F.2.1]; exact hd) hfr (by show 2 * 0 + _ + _ ≤ _; rw [e]; omega) (by omega) (by omega)
  have k2 := kk H locs ls (.double w :: q) d' (dr_step a1 lw_bits S.drawn_eq hdr) a2 a3 a4 (by rw [List.map_cons, hq]; show Value.double (cnD w) :: st = _; rw [cnD_alike hal, ← fmax_cn]; rfl)
  obtain ⟨t, b1, b2⟩ := k2 _ (by exact hT) S'
  exact ⟨t, st1 t b1, b2⟩
theorem J_dmin {x y : UInt64} (F : Fx X cc own) (hd : decode cc pc = .ok (.invokestatic index, 3)) (w1 : Cond.methodLink own index Free.Fl.Abs.minDN ∈ lw_G) (w2 : Cond.static Free.Fl.Abs.minDN ∈ lw_G) (w3 : Cond.initialized "java/lang/Math" ∈ lw_G) (w4 : Cond.code Free.Fl.Abs.minDN Free.Fl.Abs.minDCode 4 (some .double) ∈ lw_G) (M : RM X g) (hfr : 1 ≤ (xR X).frames) (hlo : (st.map fun v => v.category).sum + 15 ≤ (xR X).locals) (kk : J X g h (pc + 3) lv (.double (fmin x y) :: st)) : J X g h pc lv (.double y :: .double x :: st) := by
  intro H locs ls st' d0 a1 a2 a3 a4 b0
  obtain ⟨v0, q0, rfl, e0, h0⟩ := mc1 b0
  obtain ⟨v1, q, rfl, e1, hq⟩ := mc1 h0
  obtain ⟨y', rfl, rfl⟩ := cn_d e0
  obtain ⟨x', rfl, rfl⟩ := cn_d e1
  have hts := dr_words F.2.2.2.2.1 d0
  have e : (q.map fun v => v.category) = (st.map fun v => v.category) := by rw [← hq, List.map_map]; exact List.map_congr_left fun v _ => (cn_cat v).symm
  obtain ⟨m1, m2, m3, m4⟩ := M
  intro T hT S
  obtain ⟨w, d', vm1, hal, hdr, S', st1⟩ := Stand.mathMinD S F.1 F.2.2.2.1 (hts _ w1) (hts _ w2) (hts _ w3) (hts _ w4) (g := F0 (xm X) pc ls (.double y' :: .double x' :: q)) rfl (a4.choose_spec.1.1.trans F.2.2.1.symm) rfl (by rw [F.2.1]; exact hd) hfr (by show 2 * 0 + _ + _ ≤ _; rw [e]; omega) (by omega) (by omega)
  have k2 := kk H locs ls (.double w :: q) d' (dr_step a1 lw_bits S.drawn_eq hdr) a2 a3 a4 (by rw [List.map_cons, hq]; show Value.double (cnD w) :: st = _; rw [cnD_alike hal, ← fmin_cn]; rfl)
  obtain ⟨t, b1, b2⟩ := k2 _ (by exact hT) S'
  exact ⟨t, st1 t b1, b2⟩
end JM
