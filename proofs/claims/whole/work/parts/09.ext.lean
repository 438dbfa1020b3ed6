/-! rows of J: constants, native bits, nest mates, arrays of references -/
section JK
variable {X : Cx} {cc : ByteArray} {own : String} {g : MT} {h : CT} {pc : Nat} {lv : List (Nat × Value)} {st : List Value} {a index : Nat}
theorem J_gets {i : Nat} {q : String × String × String} {v : Value} (F : Fx X cc own) (hd : decode cc pc = .ok (.getstatic index, 3)) (hq : sts[i]? = some q) (hw : Cond.fieldLink own index q.1 q.2.1 q.2.2 ∈ lw_G) (hv : (xk X).1 i = v) (hc : cn v = v) (kk : J X g h (pc + 3) lv (v :: st)) : J X g h pc lv st := by
  intro H locs ls st' d0 a1 a2 a3 a4 b0
  have hZ := F.2.2.2.2.2.2.2.2.2.1.1 i q hq
  exact va_gets (s := (xs X).setDrawn d0) F.1 F.2.1 hZ a3 F.2.2.2.1 (dr_words F.2.2.2.2.1 d0 _ hw) (fun x hx => hx) hd (kk H locs ls _ d0 a1 a2 a3 a4 (by rw [List.map_cons, b0, hv, hc]))
theorem cnD_num {y : UInt64} (h : FP.dIsNaN (cnD y) = false) : cnD y = y := by
  rw [nan_cnD] at h
  simp [cnD, h]
theorem J_raw {x : UInt64} (F : Fx X cc own) (hd : decode cc pc = .ok (.invokestatic index, 3)) (w1 : Cond.methodLink own index ⟨"java/lang/Double", "doubleToRawLongBits", "(D)J"⟩ ∈ lw_G) (w2 : Cond.native ⟨"java/lang/Double", "doubleToRawLongBits", "(D)J"⟩ ∈ lw_G) (w3 : Cond.static ⟨"java/lang/Double", "doubleToRawLongBits", "(D)J"⟩ ∈ lw_G) (w4 : Cond.initialized "java/lang/Double" ∈ lw_G) (hfr : 1 ≤ (xR X).frames) (hlo : (st.map fun v => v.category).sum + 15 ≤ (xR X).locals) (hx : FP.dIsNaN x = false) (kk : J X g h (pc + 3) lv (.long x.toInt64 :: st)) : J X g h pc lv (.double x :: st) := by
  intro H locs ls st' d0 a1 a2 a3 a4 b0
  obtain ⟨w0, q, rfl, e0, hq⟩ := mc1 b0
  obtain ⟨y, rfl, rfl⟩ := cn_d e0
  rw [cnD_num hx] at kk
  have hts := dr_words F.2.2.2.2.1 d0
  have e : (q.map fun v => v.category) = (st.map fun v => v.category) := by rw [← hq, List.map_map]; exact List.map_congr_left fun v _ => (cn_cat v).symm
  exact vn_d2l (s := (xs X).setDrawn d0) F.1 F.2.1 (F.2.2.1.trans a4.choose_spec.1.1.symm) F.2.2.2.1 (hts _ w1) (hts _ w2) (hts _ w3) (hts _ w4) hfr (by rw [e]; exact hlo) hd (kk H locs ls _ d0 a1 a2 a3 a4 (by rw [List.map_cons, hq]; rfl))
/-- a new array of references -/
theorem J_newq {t N : Nat} {C : String} {n : Int32} (F : Fx X cc own) (hd : decode cc pc = .ok (.anewarray index, 3)) (hc : atys[t]? = some (.object C)) (w1 : Cond.classLink own index C ∈ lw_G) (hao : va_AO C (xs X)) (hn : ¬ n < 0) (hN : n.toNatClampNeg = N) (hb : N * 4 ≤ 536870912) (M0 : RM X g) (M : RM X (gA g (t + 20) N)) (kk : J X (gA g (t + 20) N) (hZ h (gN g)) (pc + 3) lv (va_rf (some (gN g)) :: st)) : J X g h pc lv (.int n :: st) := by
  intro H locs ls st' d0 a1 a2 a3 a4 b0
  obtain ⟨w2, s2, rfl, e1, b1⟩ := mc1 b0
  cases cn_i e1
  subst hN
  have hts := F.2.2.2.2.1
  have hNN := a2.1
  obtain ⟨m1, m2, m3, m4⟩ := M0
  obtain ⟨n1, n2, -, -⟩ := M
  simp only [gA, gN, gU] at n1 n2 m1 m2 m3 m4 hNN
  have hB : xB X ≤ H.size := Nat.le_trans F.2.2.2.2.2.2.1 a3.1
  have hao2 : (Cond.arrayOver (.object C)).before (xa X) ((xs X).setDrawn d0) = true := va_AO.use (U := (xs X).setDrawn d0) hao
  refine W.anew (s := (xs X).setDrawn d0) F.1 F.2.1 F.2.2.2.1 (dr_words hts d0 _ w1) hao2 rfl hd rfl hn hb (by simp only [gN]; omega) (by simp only [gU]; omega) fun cA kA comp f1 f2 f3 f4 => ?_
  have hRA := (F.2.2.2.2.2.1.2 t _ (tys_at hc)).2
  obtain ⟨kA', comp', k1, k2, k3, k4⟩ := hRA
  have hcA : cA = (xK X) t := Option.some.inj (f1.symm.trans k4)
  subst hcA
  generalize hH1 : H.push ({ cls := (xK X) t, slots := Array.replicate n.toNatClampNeg .null, vm := .none } : Cell) = H1
  have z1 : H1.size = H.size + 1 := by rw [← hH1, Array.size_push]
  have e1 : H1[H.size]? = some (arrV ((xK X) t) n.toNatClampNeg (fun _ => .null)) := by rw [← hH1, Array.getElem?_push_size, ← arrV_new]
  have o1 : ∀ q : Nat, q < H.size → H1[q]? = H[q]? := fun q hq => by rw [← hH1, Array.getElem?_push, if_neg (Nat.ne_of_lt hq)]
  have k2 := kk H1 locs ls (.ref (gN g) :: s2) d0 a1 (Im_newa a2 hB hc (fun q => by cases q) z1 o1 e1) ⟨by have := a3.1; omega, fun x h1 h2 => (o1 x (Nat.lt_of_lt_of_le h1 a3.1)).trans (a3.2.1 x h1 h2), a3.2.2⟩ a4 (by rw [List.map_cons, b1]; rfl)
  have c1 : gN (gA g (t + 20) n.toNatClampNeg) - xN X = gN g - xN X + 1 := by simp only [gA, gN]; omega
  have c2 : gU (gA g (t + 20) n.toNatClampNeg) - xU X = gU g - xU X + n.toNatClampNeg := by simp only [gA, gU]; omega
  rw [c1, c2] at k2
  have hN' : H.size = gN g := a2.1
  rw [hN']
  exact k2
end JK
