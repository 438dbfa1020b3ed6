/-! calls over plain heaps -/
theorem gG {w : Cond} (h : w ∈ lw_G) : (w.onTables && w.keeps) = true ∨ ∃ ty, w = .arrayClass ty := good_of_word (List.mem_filter.mp h).2
theorem gJ {y : MethodName} {cc : ByteArray} {maxL : Nat} {ret : Option FieldType} (hc : Cond.code y cc maxL ret ∈ lw_G) : GoodIn lw_G (wsJ y cc maxL ret) := by
  intro w hw
  rcases List.mem_cons.mp hw with rfl | hw
  · exact ⟨hc, gG hc⟩
  · exact ⟨hw, gG hw⟩
/-- the words of a call of y by entry 'index' of class own -/
def CWS (own : String) (index : Nat) (y : MethodName) (cc : ByteArray) (maxL : Nat) (ret : Option FieldType) (n : Nat) : Prop :=
  Cond.methodLink own index y ∈ lw_G ∧ Cond.initialized y.cls ∈ lw_G ∧ Cond.code y cc maxL ret ∈ lw_G ∧ (y.cls ≠ "java/lang/invoke/MethodHandle" ∧ y.cls ≠ "java/lang/invoke/VarHandle" ∧ (parseMethodDescriptor y.desc).map (fun d => d.parameters.length) = some n) ∧ Cond.static y ∈ lw_G
def CWV (own : String) (index : Nat) (y : MethodName) (cc : ByteArray) (maxL : Nat) (ret : Option FieldType) (n : Nat) : Prop :=
  Cond.methodLink own index y ∈ lw_G ∧ Cond.initialized y.cls ∈ lw_G ∧ Cond.code y cc maxL ret ∈ lw_G ∧ (y.cls ≠ "java/lang/invoke/MethodHandle" ∧ y.cls ≠ "java/lang/invoke/VarHandle" ∧ (parseMethodDescriptor y.desc).map (fun d => d.parameters.length) = some n) ∧ Cond.instanceMethod y ∈ lw_G ∧ Cond.selects y.cls y y ∈ lw_G
def CWI (own : String) (index : Nat) (y : MethodName) (cc : ByteArray) (maxL : Nat) (n : Nat) : Prop :=
  Cond.methodLink own index y ∈ lw_G ∧ Cond.initialized y.cls ∈ lw_G ∧ Cond.code y cc maxL none ∈ lw_G ∧ (y.cls ≠ "java/lang/invoke/MethodHandle" ∧ y.cls ≠ "java/lang/invoke/VarHandle" ∧ (parseMethodDescriptor y.desc).map (fun d => d.parameters.length) = some n) ∧ Cond.instanceMethod y ∈ lw_G ∧ y.name = "<init>"
section JC
variable {X : Cx} {cc : ByteArray} {own : String} {g g' : MT} {h h' : CT} {pc : Nat} {lv : List (Nat × Value)} {rest : List Value} {G : Gx} {r : Option Value} {d maxL n index : Nat} {y : MethodName} {cy : ByteArray} {ret : Option FieldType} {as : List Value}
theorem map_split {st' : List Value} {a b : List Value} (h : st'.map cn = a ++ b) : ∃ p q, st' = p ++ q ∧ p.map cn = a ∧ q.map cn = b := by
  obtain ⟨p, q, h1, h2, h3⟩ := List.map_eq_append_iff.mp h
  exact ⟨p, q, h1, h2, h3⟩
theorem run_go (F : Fx X cc own) {H : Heap} {locs : List Loc} {ls : Array Slot} {st' rs : List Value} {d0 : Drawn} {av : Array Value} (hr : va_RunD lw_cs (xp X) (xl X) (xe X) (xR X) ((xs X).setDrawn d0) (xm X) (xa X) (xb X) (xh X) (xc X) H locs (gN g - xN X) (gU g - xU X) (gN g' - gN g) (gU g' - gU g) (F0 (xm X) pc ls st') rs (QcJ G r g' h' av) (fun q => G.1 ≤ q))
    (hG : (xB X, xD X, xK X, xk X) = G) (a1 : (xs X).drawn.sameBut d0 lw_cs) (a3 : va_S (fun q => xB X ≤ q) (xs X).heap H locs) (a4 : lvc ls (xL X) lv) (hm : gN g ≤ gN g' ∧ gU g ≤ gU g') (M : RM X g) (hrs : rs.map cn = rest) (kk : J X g' h' (pc + 3) lv (r.toList ++ rest)) :
    W (xp X) (xl X) (xe X) (xR X) ((xs X).setDrawn d0) (xm X) (xa X) (xb X) (xh X) (xc X) H locs (gN g - xN X) (gU g - xU X) (xQ X) (F0 (xm X) pc ls st') := by
  subst hG
  intro T hT S
  obtain ⟨v, s0, t, T', L, d', hd', h0, X', hL, e1, e2, ⟨⟨v', hv, hrv, I'⟩, hz, hk⟩, st⟩ := hr T hT S
  cases hv
  rw [h0] at hz hk
  obtain ⟨m1, m2, m3, m4⟩ := M
  have c1 : gN g - xN X + (gN g' - gN g) = gN g' - xN X := by omega
  have c2 : gU g - xU X + (gU g' - gU g) = gU g' - xU X := by omega
  rw [c1, c2] at X'
  have k2 := kk T'.heap (locs ++ L) ls (v.toList ++ rs) d' (a1.trans hd') (by rw [e1]; exact I')
    ⟨Nat.le_trans a3.1 (by rw [e1]; exact hz), fun q h1 h2 => by rw [e1, hk q (Nat.lt_of_lt_of_le h1 a3.1) h2]; exact a3.2.1 q h1 h2, fun q hq => by
      rcases List.mem_append.mp hq with z | z
      · exact a3.2.2 q z
      · exact hL q z⟩ a4 (by rw [List.map_append, hrs, ← hrv]; cases v <;> rfl)
  obtain ⟨t2, b1, b2⟩ := k2 T' rfl X'
  exact ⟨t2, st t2 b1, b2⟩
theorem pre_go (F : Fx X cc own) {H : Heap} {locs : List Loc} {d0 : Drawn} {As : List Value} (hG : (xB X, xD X, xK X, xk X) = G) (a2 : Img (xB X) (xD X) (xK X) g h H) (a3 : va_S (fun q => xB X ≤ q) (xs X).heap H locs) (hAs : As.map cn = as) :
    ∀ U : State, U.heap = H → ((xs X).setDrawn d0).WarmedH U.vm → PcJ G as g h As.toArray U := by
  intro U hU hW
  subst hG
  have hal : (xs X).vm.Alike U.vm := hW.alike
  refine ⟨As, rfl, hAs, by rw [hU]; exact a2, va_K.moved hal F.2.2.2.2.2.1, ?_, KF.next hal (fun a h1 h2 => by rw [hU]; exact a3.2.1 a h1 h2) F.2.2.2.2.2.2.2.2.2.1, KN.warm hW F.2.2.2.2.2.2.2.2.2.2⟩
  rw [hU]
  exact Nat.le_trans F.2.2.2.2.2.2.1 a3.1
theorem J_callS (F : Fx X cc own) (hd : decode cc pc = .ok (.invokestatic index, 3)) (cw : CWS own index y cy maxL ret n) (C : Ctr G d y cy maxL ret as g h r g' h') (hG : (xB X, xD X, xK X, xk X) = G) (hn : as.length = n) (hW : (rest.map fun v => v.category).sum ≤ 8) (hfr : d + 1 ≤ (xR X).frames) (hlo : 8 + (maxL + 11) + 60 * d ≤ (xR X).locals) (hm : gN g ≤ gN g' ∧ gU g ≤ gU g') (M : RM X g) (M' : RM X g') {sx sy : List Value} (hsx : as.reverse ++ rest = sx) (hsy : r.toList ++ rest = sy)
    (kk : J X g' h' (pc + 3) lv sy) : J X g h pc lv sx := by
  subst hsx; subst hsy
  intro H locs ls st' d0 a1 a2 a3 a4 b0
  obtain ⟨p, q, rfl, hp, hq⟩ := map_split b0
  obtain ⟨w1, w2, w3, w4, w5⟩ := cw
  have hts := dr_words F.2.2.2.2.1 d0
  have hcb := callB_of (R := xR X) (s := (xs X).setDrawn d0) (args := xa X) (rm := rmJ d g g') (mc := gN g' - gN g) (ms := gU g' - gU g) n hts (gJ w3) rfl rfl rfl (hts _ w2) (hts _ w1) w4 ⟨hfr, hlo⟩
  have hAs : p.reverse.map cn = as := by rw [List.map_reverse, hp, List.reverse_reverse]
  obtain ⟨m1, m2, m3, m4⟩ := M
  have M2 := M'
  obtain ⟨n1, n2, -, -⟩ := M2
  have hr := va_runS_D (cs := lw_cs) (s := (xs X).setDrawn d0) (args := xa X) (Ts := lw_G) (l := xl X) (e := xe X) (below := xb X) (meth := xh X) (H := H) (locs := locs) (cells := gN g - xN X) (slots := gU g - xU X) (As := p.reverse) (rest := q) (g := F0 (xm X) pc ls (p ++ q)) (own := own) (index := index) (nL := xL X)
    ⟨F.1, F.2.1, F.2.2.1, F.2.2.2.1, hts⟩ (C (xl X)) ⟨hcb, hts _ w5⟩ ⟨PcJ_blind _ _ _ _, pre_go (d0 := d0) F hG a2 a3 hAs⟩ rfl (by rw [List.length_reverse, ← hn, ← hAs, List.length_map, List.length_reverse]) a4.choose_spec.1.1 (by rw [List.reverse_reverse]) (lv_room (by rw [show (q.map fun v => v.category) = (rest.map fun v => v.category) from by rw [← hq, List.map_map]; exact List.map_congr_left fun v _ => (cn_cat v).symm]; exact hW)) hd ⟨by omega, by omega⟩
  exact run_go F hr hG a1 a3 a4 hm ⟨m1, m2, m3, m4⟩ hq kk
theorem J_callV {ci b : Nat} {rc : vw_C} (F : Fx X cc own) (hd : decode cc pc = .ok (.invokevirtual index, 3)) (cw : CWV own index y cy maxL ret n) (C : Ctr G d y cy maxL ret (va_rf (some b) :: as) g h r g' h') (hrc : vwCl[ci]? = some rc) (hyc : y.cls = rc.1) (ht : gT g b = ci + 1) (hG : (xB X, xD X, xK X, xk X) = G) (hn : as.length = n) (hW : (rest.map fun v => v.category).sum ≤ 8) (hfr : d + 1 ≤ (xR X).frames) (hlo : 8 + (maxL + 11) + 60 * d ≤ (xR X).locals) (hm : gN g ≤ gN g' ∧ gU g ≤ gU g') (M : RM X g) (M' : RM X g') {sx sy : List Value} (hsx : as.reverse ++ va_rf (some b) :: rest = sx) (hsy : r.toList ++ rest = sy)
    (kk : J X g' h' (pc + 3) lv sy) : J X g h pc lv sx := by
  subst hsx; subst hsy
  intro H locs ls st' d0 a1 a2 a3 a4 b0
  obtain ⟨p, q0, rfl, hp, hq0⟩ := map_split b0
  obtain ⟨w0, q, rfl, e0, hq⟩ := mc1 hq0
  cases cn_q e0
  obtain ⟨w1, w2, w3, w4, w5, w6⟩ := cw
  have hts := dr_words F.2.2.2.2.1 d0
  have hcb := callB_of (R := xR X) (s := (xs X).setDrawn d0) (args := xa X) (rm := rmJ d g g') (mc := gN g' - gN g) (ms := gU g' - gU g) n hts (gJ w3) rfl rfl rfl (hts _ w2) (hts _ w1) w4 ⟨hfr, hlo⟩
  have hAs : p.reverse.map cn = as := by rw [List.map_reverse, hp, List.reverse_reverse]
  have hAs2 : (va_rf (some b) :: p.reverse).map cn = va_rf (some b) :: as := by rw [List.map_cons, hAs]; rfl
  obtain ⟨cellB, V, g1, g2, g3, -⟩ := Im_obj a2 ht hrc
  have hcls := (F.2.2.2.2.2.1.1 ci rc hrc).2.1
  obtain ⟨m1, m2, m3, m4⟩ := M
  have M2 := M'
  obtain ⟨n1, n2, -, -⟩ := M2
  have hr := va_runV_D (cs := lw_cs) (s := (xs X).setDrawn d0) (args := xa X) (Ts := lw_G) (l := xl X) (e := xe X) (below := xb X) (meth := xh X) (H := H) (locs := locs) (cells := gN g - xN X) (slots := gU g - xU X) (As := p.reverse) (rest := q) (b := b) (g := F0 (xm X) pc ls (p ++ va_rf (some b) :: q)) (own := own) (index := index) (nL := xL X) (C := y.cls)
    ⟨F.1, F.2.1, F.2.2.1, F.2.2.2.1, hts⟩ (C (xl X)) ⟨hcb, hts _ w5, hts _ w6⟩ ⟨PcJ_blind _ _ _ _, ⟨cellB, g1, by rw [g3]; rfl, by rw [hyc, g2]; exact hcls⟩, pre_go (d0 := d0) F hG a2 a3 hAs2⟩ rfl (by rw [List.length_reverse, ← hn, ← hAs, List.length_map, List.length_reverse]) a4.choose_spec.1.1 (by rw [List.reverse_reverse]; rfl) (lv_room (by rw [show (q.map fun v => v.category) = (rest.map fun v => v.category) from by rw [← hq, List.map_map]; exact List.map_congr_left fun v _ => (cn_cat v).symm]; exact hW)) hd ⟨by omega, by omega⟩
  exact run_go F hr hG a1 a3 a4 hm ⟨m1, m2, m3, m4⟩ hq kk
theorem J_callI {b : Nat} (F : Fx X cc own) (hd : decode cc pc = .ok (.invokespecial index, 3)) (cw : CWI own index y cy maxL n) (C : Ctr G d y cy maxL none (va_rf (some b) :: as) g h r g' h') (hG : (xB X, xD X, xK X, xk X) = G) (hn : as.length = n) (hW : (rest.map fun v => v.category).sum ≤ 8) (hfr : d + 1 ≤ (xR X).frames) (hlo : 8 + (maxL + 11) + 60 * d ≤ (xR X).locals) (hm : gN g ≤ gN g' ∧ gU g ≤ gU g') (M : RM X g) (M' : RM X g') {sx sy : List Value} (hsx : as.reverse ++ va_rf (some b) :: rest = sx) (hsy : r.toList ++ rest = sy)
    (kk : J X g' h' (pc + 3) lv sy) : J X g h pc lv sx := by
  subst hsx; subst hsy
  intro H locs ls st' d0 a1 a2 a3 a4 b0
  obtain ⟨p, q0, rfl, hp, hq0⟩ := map_split b0
  obtain ⟨w0, q, rfl, e0, hq⟩ := mc1 hq0
  cases cn_q e0
  obtain ⟨w1, w2, w3, w4, w5, w6⟩ := cw
  have hts := dr_words F.2.2.2.2.1 d0
  have hcb := callB_of (R := xR X) (s := (xs X).setDrawn d0) (args := xa X) (rm := rmJ d g g') (mc := gN g' - gN g) (ms := gU g' - gU g) n hts (gJ w3) rfl rfl rfl (hts _ w2) (hts _ w1) w4 ⟨hfr, hlo⟩
  have hAs : p.reverse.map cn = as := by rw [List.map_reverse, hp, List.reverse_reverse]
  have hAs2 : (va_rf (some b) :: p.reverse).map cn = va_rf (some b) :: as := by rw [List.map_cons, hAs]; rfl
  obtain ⟨m1, m2, m3, m4⟩ := M
  have M2 := M'
  obtain ⟨n1, n2, -, -⟩ := M2
  have hr := va_runI_D (cs := lw_cs) (s := (xs X).setDrawn d0) (args := xa X) (Ts := lw_G) (l := xl X) (e := xe X) (below := xb X) (meth := xh X) (H := H) (locs := locs) (cells := gN g - xN X) (slots := gU g - xU X) (As := p.reverse) (rest := q) (b := b) (g := F0 (xm X) pc ls (p ++ va_rf (some b) :: q)) (own := own) (index := index) (nL := xL X)
    ⟨F.1, F.2.1, F.2.2.1, F.2.2.2.1, hts⟩ (C (xl X)) ⟨hcb, w6, hts _ w5⟩ ⟨PcJ_blind _ _ _ _, pre_go (d0 := d0) F hG a2 a3 hAs2⟩ rfl (by rw [List.length_reverse, ← hn, ← hAs, List.length_map, List.length_reverse]) a4.choose_spec.1.1 (by rw [List.reverse_reverse]; rfl) (lv_room (by rw [show (q.map fun v => v.category) = (rest.map fun v => v.category) from by rw [← hq, List.map_map]; exact List.map_congr_left fun v _ => (cn_cat v).symm]; exact hW)) hd ⟨by omega, by omega⟩
  exact run_go F hr hG a1 a3 a4 hm ⟨m1, m2, m3, m4⟩ hq kk
theorem J_objInit {a : Nat} {st : List Value} (F : Fx X cc own) (hd : decode cc pc = .ok (.invokespecial index, 3)) (w1 : Cond.methodLink own index Lib.objectInit ∈ lw_G) (w2 : Cond.instanceMethod Lib.objectInit ∈ lw_G) (w3 : Cond.code Lib.objectInit ⟨#[0xb1]⟩ 1 none ∈ lw_G) (hW : (st.map fun v => v.category).sum + 12 ≤ (xR X).locals) (hfr : 1 ≤ (xR X).frames) (kk : J X g h (pc + 3) lv st) : J X g h pc lv (va_rf (some a) :: st) := by
  intro H locs ls st' d0 a1 a2 a3 a4 b0
  obtain ⟨w0, q, rfl, e0, hq⟩ := mc1 b0
  cases cn_q e0
  have hts := dr_words F.2.2.2.2.1 d0
  refine W.objInit (s := (xs X).setDrawn d0) F.1 F.2.1 F.2.2.2.1 (hts _ w1) (hts _ w2) (hts _ w3) rfl (a4.choose_spec.1.1.trans F.2.2.1.symm) rfl hd hfr ?_ (kk H locs ls _ d0 a1 a2 a3 a4 hq)
  have e : (q.map fun v => v.category) = (st.map fun v => v.category) := by rw [← hq, List.map_map]; exact List.map_congr_left fun v _ => (cn_cat v).symm
  show 2 * 0 + (q.map fun v => v.category).sum + 12 ≤ _
  rw [e]
  omega
end JC
theorem cat_i (x : Int32) : (Value.int x).category = 1 := rfl
theorem cat_l (x : Int64) : (Value.long x).category = 2 := rfl
theorem cat_d (x : UInt64) : (Value.double x).category = 2 := rfl
theorem cat_rf (r : Option Nat) : (va_rf r).category = 1 := by cases r <;> rfl
/-- the facts of a walk that makes no cell -/
def Zx (X : Cx) (G : Gx) (cc : ByteArray) (own : String) (maxL dk : Nat) (ret : Option FieldType) (r : Option Value) (g : MT) (h' : CT) : Prop :=
  Fx X cc own ∧ RM X g ∧ xL X = maxL ∧ (xR X).frames = dk ∧ (xR X).locals = 60 * dk ∧ RT X G ret r g h'
section ZX
variable {X : Cx} {G : Gx} {cc : ByteArray} {own : String} {maxL dk : Nat} {ret : Option FieldType} {r : Option Value} {g : MT} {h' : CT}
theorem zL {i : Nat} (Z : Zx X G cc own maxL dk ret r g h') (h : i < maxL) : i < xL X := by rw [Z.2.2.1]; exact h
theorem zF {d : Nat} (Z : Zx X G cc own maxL dk ret r g h') (h : d + 1 ≤ dk) : d + 1 ≤ (xR X).frames := by rw [Z.2.2.2.1]; exact h
theorem zO {d m : Nat} (Z : Zx X G cc own maxL dk ret r g h') (h : d + 1 ≤ dk) (hm : m ≤ 41) : 8 + (m + 11) + 60 * d ≤ (xR X).locals := by rw [Z.2.2.2.2.1]; omega
theorem zG (Z : Zx X G cc own maxL dk ret r g h') : (xB X, xD X, xK X, xk X) = G := Z.2.2.2.2.2.2.2
theorem zM (g : MT) : gN g ≤ gN g ∧ gU g ≤ gU g := ⟨Nat.le_refl _, Nat.le_refl _⟩
end ZX
/-- a body that makes no cell -/
theorem Ctr.ofZ {G : Gx} {d : Nat} {y : MethodName} {cc : ByteArray} {maxL : Nat} {ret : Option FieldType} {as : List Value} {lv : List (Nat × Value)} {g : MT} {h : CT} {r : Option Value} {h' : CT}
    (hy : plainFor y = true) (hl : ((as.map fun v => v.category).sum ≤ maxL)) (hlv : lv_args 0 as = lv)
    (body : ∀ X : Cx, Zx X G cc y.cls maxL d ret r g h' → J X g h 0 lv []) : Ctr G d y cc maxL ret as g h r g h' := by
  subst hlv
  exact Ctr.of hy hl (zM g) fun X F M h1 h2 h3 h4 _ _ _ _ Rt => body X ⟨F, M, h1, h2, h3, Rt⟩
-- the plain functions' words
def nn {α : Type} (r : Option Nat) (k : Nat → Option α) : Option α := match r with
  | some a => k a
  | none => none
def tg {α : Type} (g : MT) (a t : Nat) (k : Option α) : Option α := if gT g a = t then k else none
def ix {α : Type} (n : Nat) (i : Int32) (k : Option α) : Option α := if 0 ≤ i.toInt ∧ i.toInt < n then k else none
def dvI {α : Type} (y : Int32) (k : Option α) : Option α := if y = 0 then none else k
def dvL {α : Type} (y : Int64) (k : Option α) : Option α := if y = 0 then none else k
def bz {α : Type} (x : Int32) (k : Option α) : Option α := if x = 0 ∨ x = 1 then k else none
def lt {α β : Type} (e : α) (k : α → β) : β := k e
def bd {α β : Type} (m : Option α) (k : α → Option β) : Option β := match m with
  | some a => k a
  | none => none
def bd2 {α β γ : Type} (m : Option (α × β)) (k : α → β → Option γ) : Option γ := match m with
  | some a => k a.1 a.2
  | none => none
theorem nn_i {α : Type} {r : Option Nat} {k : Nat → Option α} {x : α} (h : nn r k = some x) : ∃ a, r = some a ∧ k a = some x := by
  cases r with
  | none => cases h
  | some a => exact ⟨a, rfl, h⟩
theorem tg_i {α : Type} {g : MT} {a t : Nat} {k : Option α} {x : α} (h : tg g a t k = some x) : gT g a = t ∧ k = some x := by
  unfold tg at h
  split at h
  · exact ⟨by assumption, h⟩
  · cases h
theorem ix_i {α : Type} {n : Nat} {i : Int32} {k : Option α} {x : α} (h : ix n i k = some x) : vp_in i n ∧ k = some x := by
  unfold ix at h
  split at h
  · exact ⟨vp_in_iff.mpr (by assumption), h⟩
  · cases h
theorem dvI_i {α : Type} {y : Int32} {k : Option α} {x : α} (h : dvI y k = some x) : ¬ y = 0 ∧ k = some x := by
  unfold dvI at h
  split at h
  · cases h
  · exact ⟨by assumption, h⟩
theorem dvL_i {α : Type} {y : Int64} {k : Option α} {x : α} (h : dvL y k = some x) : ¬ y = 0 ∧ k = some x := by
  unfold dvL at h
  split at h
  · cases h
  · exact ⟨by assumption, h⟩
def is01 (x : Int32) : Prop := x = 0 ∨ x = 1
theorem bz_i {α : Type} {y : Int32} {k : Option α} {x : α} (h : bz y k = some x) : is01 y ∧ k = some x := by
  unfold bz at h
  split at h
  · exact ⟨by assumption, h⟩
  · cases h
theorem z_n {x : Int32} (h : is01 x) : narrow .boolean (.int x) = .int x := by rcases h with rfl | rfl <;> decide
theorem z_f {x : Int32} (h : is01 x) : fits .boolean (.int x) = true := by rcases h with rfl | rfl <;> decide
theorem lt_i {α β : Type} {e : α} {k : α → β} {x : β} (h : lt e k = x) : ∀ y, y = e → k y = x := fun y q => by subst q; exact h
theorem bd_i {α β : Type} {m : Option α} {k : α → Option β} {x : β} (h : bd m k = some x) : ∃ a, m = some a ∧ k a = some x := by
  cases m with
  | none => cases h
  | some a => exact ⟨a, rfl, h⟩
theorem bd2_i {α β γ : Type} {m : Option (α × β)} {k : α → β → Option γ} {x : γ} (h : bd2 m k = some x) : ∃ a b, m = some (a, b) ∧ k a b = some x := by
  cases m with
  | none => cases h
  | some a => exact ⟨a.1, a.2, rfl, h⟩
section JT
variable {X : Cx} {g : MT} {h : CT} {pc : Nat} {lv : List (Nat × Value)} {st : List Value}
theorem J_ti {x : Int32} (k : ∀ y, y = x → J X g h pc lv (.int y :: st)) : J X g h pc lv (.int x :: st) := k x rfl
theorem J_tl {x : Int64} (k : ∀ y, y = x → J X g h pc lv (.long y :: st)) : J X g h pc lv (.long x :: st) := k x rfl
theorem J_td {x : UInt64} (k : ∀ y, y = x → J X g h pc lv (.double y :: st)) : J X g h pc lv (.double x :: st) := k x rfl
theorem J_tr {x : Option Nat} (k : ∀ y, y = x → J X g h pc lv (va_rf y :: st)) : J X g h pc lv (va_rf x :: st) := k x rfl
theorem J_th {h0 : CT} (k : ∀ y, y = h0 → J X g y pc lv st) : J X g h0 pc lv st := k h0 rfl
end JT
/-- how often a loop may go round -/
def FUEL : Nat := 5000
theorem hI_s (h : CT) (a k : Nat) (x : Int32) : hI (sI h a k x) a k = x := by simp [hI, sI, up2]
theorem hL_s (h : CT) (a k : Nat) (x : Int64) : hL (sL h a k x) a k = x := by simp [hL, sL, up2]
theorem hD_s (h : CT) (a k : Nat) (x : UInt64) : hD (sD h a k x) a k = x := by simp [hD, sD, up2]
theorem hR_s (h : CT) (a k : Nat) (x : Option Nat) : hR (sR h a k x) a k = x := by simp [hR, sR, up2]
