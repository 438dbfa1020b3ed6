/-! rows of J: constants that stand below our cells, nest mates, inherited methods, arraycopy -/
section JK2
variable {X : Cx} {cc : ByteArray} {own : String} {g g' : MT} {h h' : CT} {pc : Nat} {lv : List (Nat × Value)} {st rest : List Value} {a index : Nat} {E : EC}
theorem J_getsN {i : Nat} {q : String × String × String} {v : Value} {host : String} (F : Fx X cc own) (hd : decode cc pc = .ok (.getstatic index, 3)) (hq : sts[i]? = some q) (hw : va_Nw (.fieldLinkNest own index q.1 q.2.1 q.2.2 host) (xs X)) (hv : (xk X).1 i = v) (hc : cn v = v) (kk : J X g h (pc + 3) lv (v :: st)) : J X g h pc lv st := by
  intro H locs ls st' d0 a1 a2 a3 a4 b0
  have hZ := F.2.2.2.2.2.2.2.2.2.1.1 i q hq
  have hl : (Cond.fieldLinkNest own index q.1 q.2.1 q.2.2 host).before (xa X) ((xs X).setDrawn d0) = true := va_Nw.use (U := (xs X).setDrawn d0) rfl hw
  exact va_getsN (s := (xs X).setDrawn d0) F.1 F.2.1 hZ a3 F.2.2.2.1 hl (fun x hx => hx) hd (kk H locs ls _ d0 a1 a2 a3 a4 (by rw [List.map_cons, b0, hv, hc]))
theorem kn1 (F : Fx X cc own) : va_Nw (.fieldLinkNest RX10 18 RX12 "LATENCY" "[I" RX12) (xs X) := F.2.2.2.2.2.2.2.2.2.2.2.2.2.2.1
theorem kn2 (F : Fx X cc own) : va_Nw (.fieldLinkNest RX6 163 RX12 "OPS" "[LVectorPipes$Op;" RX12) (xs X) := F.2.2.2.2.2.2.2.2.2.2.2.2.2.2.2.1
theorem kn3 (F : Fx X cc own) : va_Nw (.fieldLinkNest RX5 123 RX12 "LATENCY" "[I" RX12) (xs X) := F.2.2.2.2.2.2.2.2.2.2.2.2.2.2.2.2
theorem kn4 (F : Fx X cc own) : va_Nw (.methodLinkNest RX9 26 yX4_init RX12) (xs X) := F.2.2.2.2.2.2.2.2.2.2.2.2.1
theorem kn5 (F : Fx X cc own) : va_Nw (.methodLinkNest RX12 76 yX4_init RX12) (xs X) := F.2.2.2.2.2.2.2.2.2.2.2.2.2.1
/-- a field of an enum's constant -/
theorem J_getO {k : Nat} {q : String × String × String × FieldType} {v : Value} (F : Fx X cc own) (hd : decode cc pc = .ok (.getfield index, 3)) (hq : opf[k]? = some q) (ht : gT (xk X).2.2 a = 60) (hw : Cond.fieldLink own index q.1 q.2.1 q.2.2.1 ∈ lw_G) (hv : vk q.2.2.2 (xk X).2.1 a k = v) (hc : cn v = v) (kk : J X g h (pc + 3) lv (v :: st)) : J X g h pc lv (va_rf (some a) :: st) := by
  intro H locs ls st' d0 a1 a2 a3 a4 b0
  obtain ⟨w0, r, rfl, e0, hr⟩ := mc1 b0
  cases cn_q e0
  have hE := (F.2.2.2.2.2.2.2.2.2.1.2.1 a ht).2 k q hq
  exact vk_getf (s := (xs X).setDrawn d0) F.1 F.2.1 hE a3 F.2.2.2.1 (dr_words F.2.2.2.2.1 d0 _ hw) (fun x hx => hx) hd (kk H locs ls _ d0 a1 a2 a3 a4 (by rw [List.map_cons, hr, hv, hc]))
/-- a field of a String constant -/
theorem J_getT {k : Nat} {q : String × String × String × FieldType} {v : Value} (F : Fx X cc own) (hd : decode cc pc = .ok (.getfield index, 3)) (hq : stf[k]? = some q) (ht : gT (xk X).2.2 a = 61) (hw : Cond.fieldLink own index q.1 q.2.1 q.2.2.1 ∈ lw_G) (hv : vk q.2.2.2 (xk X).2.1 a k = v) (hc : cn v = v) (kk : J X g h (pc + 3) lv (v :: st)) : J X g h pc lv (va_rf (some a) :: st) := by
  intro H locs ls st' d0 a1 a2 a3 a4 b0
  obtain ⟨w0, r, rfl, e0, hr⟩ := mc1 b0
  cases cn_q e0
  have hE := (F.2.2.2.2.2.2.2.2.2.1.2.2.1 a ht).2 k q hq
  exact vk_getf (s := (xs X).setDrawn d0) F.1 F.2.1 hE a3 F.2.2.2.1 (dr_words F.2.2.2.2.1 d0 _ hw) (fun x hx => hx) hd (kk H locs ls _ d0 a1 a2 a3 a4 (by rw [List.map_cons, hr, hv, hc]))
theorem J_ldcS {i : Nat} {q : String × Nat × String} {r : Nat} (F : Fx X cc own) (hd : decode cc pc = .ok (.ldc index, 2)) (hq : sld[i]? = some q) (ho : q.1 = own) (hi : q.2.1 = index) (hv : (xk X).1 (50 + i) = .ref r) (kk : J X g h (pc + 2) lv (va_rf (some r) :: st)) : J X g h pc lv st := by
  intro H locs ls st' d0 a1 a2 a3 a4 b0
  obtain ⟨b, e, R⟩ := F.2.2.2.2.2.2.2.2.2.2.1 i q hq
  cases hv.symm.trans e
  rw [ho, hi] at R
  exact va_ldcS (s := (xs X).setDrawn d0) F.1 F.2.1 F.2.2.2.1 R hd (kk H locs ls _ d0 a1 a2 a3 a4 (by rw [List.map_cons, b0]; rfl))
-- arrays that nobody writes
theorem J_ialdK {i : Int32} (F : Fx X cc own) (hd : decode cc pc = .ok (.iaload, 1)) (ht : gT (xk X).2.2 a = 0 + 20) (hin : vp_in i (gL (xk X).2.2 a)) (kk : J X g h (pc + 1) lv (.int (hI (xk X).2.1 a i.toNatClampNeg) :: st)) : J X g h pc lv (.int i :: va_rf (some a) :: st) := by
  intro H locs ls st' d0 a1 a2 a3 a4 b0
  obtain ⟨w1, s2, rfl, e1, b1⟩ := mc1 b0
  obtain ⟨w2, s3, rfl, e2, b2⟩ := mc1 b1
  cases cn_i e1; cases cn_q e2
  exact va_ti (s := (xs X).setDrawn d0) F.1 F.2.1 (F.2.2.2.2.2.2.2.2.2.1.2.2.2 a 0 .int ht rfl) a3 hin (v := .int (hI (xk X).2.1 a i.toNatClampNeg)) rfl hd (kk H locs ls _ d0 a1 a2 a3 a4 (by rw [List.map_cons, b2]; rfl))
theorem J_baldK {i : Int32} (F : Fx X cc own) (hd : decode cc pc = .ok (.baload, 1)) (ht : gT (xk X).2.2 a = 3 + 20) (hin : vp_in i (gL (xk X).2.2 a)) (kk : J X g h (pc + 1) lv (.int (hI (xk X).2.1 a i.toNatClampNeg) :: st)) : J X g h pc lv (.int i :: va_rf (some a) :: st) := by
  intro H locs ls st' d0 a1 a2 a3 a4 b0
  obtain ⟨w1, s2, rfl, e1, b1⟩ := mc1 b0
  obtain ⟨w2, s3, rfl, e2, b2⟩ := mc1 b1
  cases cn_i e1; cases cn_q e2
  exact va_tb (s := (xs X).setDrawn d0) F.1 F.2.1 (F.2.2.2.2.2.2.2.2.2.1.2.2.2 a 3 .byte ht rfl) a3 hin (v := .int (hI (xk X).2.1 a i.toNatClampNeg)) rfl hd (kk H locs ls _ d0 a1 a2 a3 a4 (by rw [List.map_cons, b2]; rfl))
theorem J_aaldK {i : Int32} (F : Fx X cc own) (hd : decode cc pc = .ok (.aaload, 1)) (ht : gT (xk X).2.2 a = 5 + 20) (hin : vp_in i (gL (xk X).2.2 a)) (kk : J X g h (pc + 1) lv (va_rf (hR (xk X).2.1 a i.toNatClampNeg) :: st)) : J X g h pc lv (.int i :: va_rf (some a) :: st) := by
  intro H locs ls st' d0 a1 a2 a3 a4 b0
  obtain ⟨w1, s2, rfl, e1, b1⟩ := mc1 b0
  obtain ⟨w2, s3, rfl, e2, b2⟩ := mc1 b1
  cases cn_i e1; cases cn_q e2
  exact vb_tq (s := (xs X).setDrawn d0) F.1 F.2.1 (F.2.2.2.2.2.2.2.2.2.1.2.2.2 a 5 _ ht rfl) a3 hin (v := va_rf (hR (xk X).2.1 a i.toNatClampNeg)) rfl hd (kk H locs ls _ d0 a1 a2 a3 a4 (by rw [List.map_cons, b2, cn_rf]))
theorem J_alenK {t : Nat} {ty : FieldType} (F : Fx X cc own) (hd : decode cc pc = .ok (.arraylength, 1)) (ht : gT (xk X).2.2 a = t + 20) (hc : ktys[t]? = some ty) (kk : J X g h (pc + 1) lv (.int (Int32.ofNat (gL (xk X).2.2 a)) :: st)) : J X g h pc lv (va_rf (some a) :: st) := by
  intro H locs ls st' d0 a1 a2 a3 a4 b0
  obtain ⟨w1, s2, rfl, e1, b1⟩ := mc1 b0
  cases cn_q e1
  exact va_tlen (s := (xs X).setDrawn d0) F.1 F.2.1 (F.2.2.2.2.2.2.2.2.2.1.2.2.2 a t ty ht hc) a3 rfl hd (kk H locs ls _ d0 a1 a2 a3 a4 (by rw [List.map_cons, b1]; rfl))
end JK2
section JC2
variable {X : Cx} {cc : ByteArray} {own : String} {g g' : MT} {h h' : CT} {pc : Nat} {lv : List (Nat × Value)} {rest : List Value} {G : Gx} {r : Option Value} {d maxL n index : Nat} {y : MethodName} {cy : ByteArray} {ret : Option FieldType} {as : List Value}
/-- a call on a constant: an enum's, a String -/
theorem J_callK {b : Nat} (F : Fx X cc own) (hd : decode cc pc = .ok (.invokevirtual index, 3)) (cw : CWV own index y cy maxL ret n) (C : Ctr G d y cy maxL ret (va_rf (some b) :: as) g h r g' h') (hO : va_O y.cls b (fun q => xB X ≤ q) (xs X) (xs X).heap) (hG : (xB X, xD X, xK X, xk X) = G) (hn : as.length = n) (hW : (rest.map fun v => v.category).sum ≤ 8) (hfr : d + 1 ≤ (xR X).frames) (hlo : 8 + (maxL + 11) + 60 * d ≤ (xR X).locals) (hm : gN g ≤ gN g' ∧ gU g ≤ gU g') (M : RM X g) (M' : RM X g') {sx sy : List Value} (hsx : as.reverse ++ va_rf (some b) :: rest = sx) (hsy : r.toList ++ rest = sy)
    (kk : J X g' h' (pc + 3) lv sy) : J X g h pc lv sx := by
  subst hsx; subst hsy
  intro H locs ls st' d0 a1 a2 a3 a4 b0
  obtain ⟨p, q0, rfl, hp, hq0⟩ := map_split b0
  obtain ⟨w0, q, rfl, e0, hq⟩ := mc1 hq0
  cases cn_q e0
  obtain ⟨w1, w2, w3, w4, w5, w6⟩ := cw
  have hts := dr_words F.2.2.2.2.1 d0
  have hcb := callB_of (R := xR X) (s := (xs X).setDrawn d0) (args := xa X) (rm := rmJ d g g') (mc := gN g' - gN g) (ms := gU g' - gU g) n hts (gJ w3) rfl rfl rfl (hts _ w2) (hts _ w1) w4 ⟨hfr, hlo⟩
  have hAs : p.reverse.map cn = as := by rw [List.map_reverse, hp, List.reverse_reverse]
  have hAs2 : (va_rf (some b) :: p.reverse).map cn = va_rf (some b) :: as := by rw [List.map_cons, hAs]; rfl
  have hrec := va_Orecv (s := (xs X).setDrawn d0) hO a3
  obtain ⟨m1, m2, m3, m4⟩ := M
  have M2 := M'
  obtain ⟨n1, n2, -, -⟩ := M2
  have hr := va_runV_D (cs := lw_cs) (s := (xs X).setDrawn d0) (args := xa X) (Ts := lw_G) (l := xl X) (e := xe X) (below := xb X) (meth := xh X) (H := H) (locs := locs) (cells := gN g - xN X) (slots := gU g - xU X) (As := p.reverse) (rest := q) (b := b) (g := F0 (xm X) pc ls (p ++ va_rf (some b) :: q)) (own := own) (index := index) (nL := xL X) (C := y.cls)
    ⟨F.1, F.2.1, F.2.2.1, F.2.2.2.1, hts⟩ (C (xl X)) ⟨hcb, hts _ w5, hts _ w6⟩ ⟨PcJ_blind _ _ _ _, hrec, pre_go (d0 := d0) F hG a2 a3 hAs2⟩ rfl (by rw [List.length_reverse, ← hn, ← hAs, List.length_map, List.length_reverse]) a4.choose_spec.1.1 (by rw [List.reverse_reverse]; rfl) (lv_room (by rw [show (q.map fun v => v.category) = (rest.map fun v => v.category) from by rw [← hq, List.map_map]; exact List.map_congr_left fun v _ => (cn_cat v).symm]; exact hW)) hd ⟨by omega, by omega⟩
  exact run_go F hr hG a1 a3 a4 hm ⟨m1, m2, m3, m4⟩ hq kk
theorem kO (F : Fx X cc own) {b : Nat} (ht : gT (xk X).2.2 b = 60) : va_O RX5 b (fun q => xB X ≤ q) (xs X) (xs X).heap := (F.2.2.2.2.2.2.2.2.2.1.2.1 b ht).1
theorem kT (F : Fx X cc own) {b : Nat} (ht : gT (xk X).2.2 b = 61) : va_O "java/lang/String" b (fun q => xB X ≤ q) (xs X) (xs X).heap := (F.2.2.2.2.2.2.2.2.2.1.2.2.1 b ht).1
/-- a constructor of a nest mate, private there -/
theorem J_callIN {b : Nat} {host : String} (F : Fx X cc own) (hd : decode cc pc = .ok (.invokespecial index, 3)) (hl : va_Nw (.methodLinkNest own index y host) (xs X)) (w2 : Cond.initialized y.cls ∈ lw_G) (w3 : Cond.code y cy maxL none ∈ lw_G) (w4 : y.cls ≠ "java/lang/invoke/MethodHandle" ∧ y.cls ≠ "java/lang/invoke/VarHandle" ∧ (parseMethodDescriptor y.desc).map (fun d => d.parameters.length) = some n) (w5 : Cond.instanceMethod y ∈ lw_G) (w6 : y.name = "<init>") (C : Ctr G d y cy maxL none (va_rf (some b) :: as) g h r g' h') (hG : (xB X, xD X, xK X, xk X) = G) (hn : as.length = n) (hW : (rest.map fun v => v.category).sum ≤ 8) (hfr : d + 1 ≤ (xR X).frames) (hlo : 8 + (maxL + 11) + 60 * d ≤ (xR X).locals) (hm : gN g ≤ gN g' ∧ gU g ≤ gU g') (M : RM X g) (M' : RM X g') {sx sy : List Value} (hsx : as.reverse ++ va_rf (some b) :: rest = sx) (hsy : r.toList ++ rest = sy)
    (kk : J X g' h' (pc + 3) lv sy) : J X g h pc lv sx := by
  subst hsx; subst hsy
  intro H locs ls st' d0 a1 a2 a3 a4 b0
  obtain ⟨p, q0, rfl, hp, hq0⟩ := map_split b0
  obtain ⟨w0, q, rfl, e0, hq⟩ := mc1 hq0
  cases cn_q e0
  have hts := dr_words F.2.2.2.2.1 d0
  have hcb := va_cnB (R := xR X) (s := (xs X).setDrawn d0) (args := xa X) (rm := rmJ d g g') (mc := gN g' - gN g) (ms := gU g' - gU g) n hts (gJ w3) rfl rfl rfl hl (hts _ w2) w4 ⟨hfr, hlo⟩
  have hAs : p.reverse.map cn = as := by rw [List.map_reverse, hp, List.reverse_reverse]
  have hAs2 : (va_rf (some b) :: p.reverse).map cn = va_rf (some b) :: as := by rw [List.map_cons, hAs]; rfl
  obtain ⟨m1, m2, m3, m4⟩ := M
  have M2 := M'
  obtain ⟨n1, n2, -, -⟩ := M2
  have hr := va_runIN_D (cs := lw_cs) (s := (xs X).setDrawn d0) (args := xa X) (Ts := lw_G) (l := xl X) (e := xe X) (below := xb X) (meth := xh X) (H := H) (locs := locs) (cells := gN g - xN X) (slots := gU g - xU X) (As := p.reverse) (rest := q) (b := b) (g := F0 (xm X) pc ls (p ++ va_rf (some b) :: q)) (own := own) (index := index) (nL := xL X)
    ⟨F.1, F.2.1, F.2.2.1, F.2.2.2.1, hts⟩ (C (xl X)) ⟨hcb, w6, hts _ w5⟩ ⟨PcJ_blind _ _ _ _, pre_go (d0 := d0) F hG a2 a3 hAs2⟩ rfl (by rw [List.length_reverse, ← hn, ← hAs, List.length_map, List.length_reverse]) a4.choose_spec.1.1 (by rw [List.reverse_reverse]; rfl) (lv_room (by rw [show (q.map fun v => v.category) = (rest.map fun v => v.category) from by rw [← hq, List.map_map]; exact List.map_congr_left fun v _ => (cn_cat v).symm]; exact hW)) hd ⟨by omega, by omega⟩
  exact run_go F hr hG a1 a3 a4 hm ⟨m1, m2, m3, m4⟩ hq kk
/-- a call of a method that the receiver's class inherits -/
theorem J_callU {b : Nat} {x : MethodName} {C owner : String} (F : Fx X cc own) (hd : decode cc pc = .ok (.invokevirtual index, 3)) (ww : ∀ w ∈ va_wsU own index C owner x y (wsJ y cy maxL ret), w ∈ lw_G) (hyx : y = ⟨owner, x.name, x.desc⟩) (w4 : owner ≠ "java/lang/invoke/MethodHandle" ∧ owner ≠ "java/lang/invoke/VarHandle" ∧ (parseMethodDescriptor x.desc).map (fun d => d.parameters.length) = some n) (Ct : Ctr G d y cy maxL ret (va_rf (some b) :: as) g h r g' h') (hO : va_O C b (fun q => xB X ≤ q) (xs X) (xs X).heap) (hG : (xB X, xD X, xK X, xk X) = G) (hn : as.length = n) (hW : (rest.map fun v => v.category).sum ≤ 8) (hfr : d + 1 ≤ (xR X).frames) (hlo : 8 + (maxL + 11) + 60 * d ≤ (xR X).locals) (hm : gN g ≤ gN g' ∧ gU g ≤ gU g') (M : RM X g) (M' : RM X g') {sx sy : List Value} (hsx : as.reverse ++ va_rf (some b) :: rest = sx) (hsy : r.toList ++ rest = sy)
    (kk : J X g' h' (pc + 3) lv sy) : J X g h pc lv sx := by
  subst hsx; subst hsy
  intro H locs ls st' d0 a1 a2 a3 a4 b0
  obtain ⟨p, q0, rfl, hp, hq0⟩ := map_split b0
  obtain ⟨w0, q, rfl, e0, hq⟩ := mc1 hq0
  cases cn_q e0
  have hts := dr_words F.2.2.2.2.1 d0
  have hcb := va_cwU (R := xR X) (s := (xs X).setDrawn d0) (args := xa X) (rm := rmJ d g g') (mc := gN g' - gN g) (ms := gU g' - gU g) (ws' := lw_G) n hts (fun w hw => ⟨ww w hw, gG (ww w hw)⟩) rfl rfl rfl hyx w4 ⟨hfr, hlo⟩
  have hAs : p.reverse.map cn = as := by rw [List.map_reverse, hp, List.reverse_reverse]
  have hAs2 : (va_rf (some b) :: p.reverse).map cn = va_rf (some b) :: as := by rw [List.map_cons, hAs]; rfl
  have hrec := va_Orecv (s := (xs X).setDrawn d0) hO a3
  obtain ⟨m1, m2, m3, m4⟩ := M
  have M2 := M'
  obtain ⟨n1, n2, -, -⟩ := M2
  have hr := va_runU_D (cs := lw_cs) (s := (xs X).setDrawn d0) (args := xa X) (Ts := lw_G) (l := xl X) (e := xe X) (below := xb X) (meth := xh X) (H := H) (locs := locs) (cells := gN g - xN X) (slots := gU g - xU X) (As := p.reverse) (rest := q) (b := b) (g := F0 (xm X) pc ls (p ++ va_rf (some b) :: q)) (own := own) (index := index) (nL := xL X) (C := C)
    ⟨F.1, F.2.1, F.2.2.1, F.2.2.2.1, hts⟩ (Ct (xl X)) hcb ⟨PcJ_blind _ _ _ _, hrec, pre_go (d0 := d0) F hG a2 a3 hAs2⟩ rfl (by rw [List.length_reverse, ← hn, ← hAs, List.length_map, List.length_reverse]) a4.choose_spec.1.1 (by rw [List.reverse_reverse]; rfl) (lv_room (by rw [show (q.map fun v => v.category) = (rest.map fun v => v.category) from by rw [← hq, List.map_map]; exact List.map_congr_left fun v _ => (cn_cat v).symm]; exact hW)) hd ⟨by omega, by omega⟩
  exact run_go F hr hG a1 a3 a4 hm ⟨m1, m2, m3, m4⟩ hq kk
end JC2
-- arraycopy
def cpL (h : CT) (a0 a sp dp n : Nat) : CT := (h.1, (fun b j => if b = a then va_cpy (h.2.1 a0) (h.2.1 a) sp dp n j else h.2.1 b j), h.2.2.1, h.2.2.2)
def cpD (h : CT) (a0 a sp dp n : Nat) : CT := (h.1, h.2.1, (fun b j => if b = a then va_cpy (h.2.2.1 a0) (h.2.2.1 a) sp dp n j else h.2.2.1 b j), h.2.2.2)
section IA
variable {B : Nat} {D : va_G} {AK : Nat → ClassId} {g : MT} {h h' : CT} {H H' : Heap} {a : Nat}
/-- a whole array is written -/
theorem Im_aset {t : Nat} {ty : FieldType} {F : Nat → Value} (I : Img B D AK g h H) (ht : gT g a = t + 20) (hc : atys[t]? = some ty)
    (e1 : H'[a]? = some (arrV (AK t) (gL g a) F)) (e2 : H'.size = H.size) (e3 : ∀ q, q ≠ a → H'[q]? = H[q]?) (w1 : ∀ j, j < gL g a → cn (F j) = vk ty h' a j) (w2 : ∀ ty b j, b ≠ a → vk ty h' b j = vk ty h b j) : Img B D AK g h' H' := by
  refine ⟨e2.trans I.1, fun b => ⟨(I.2 b).1, fun cj hj hj2 => ?_, fun t2 ty2 hj ht2 => ?_⟩⟩
  · have hb : b ≠ a := fun z => by subst z; omega
    obtain ⟨r', V', h1, h2, h3⟩ := (I.2 b).2.1 cj hj hj2
    refine ⟨r', V', h1, h2.kept (e3 b hb), fun j hj3 => ?_⟩
    rw [w2 _ _ _ hb]
    exact h3 j hj3
  · by_cases hb : b = a
    · subst hb
      have : t2 = t := by omega
      subst this
      cases hc.symm.trans ht2
      exact ⟨F, e1, w1⟩
    · obtain ⟨F', h1, h2⟩ := (I.2 b).2.2 t2 ty2 hj ht2
      refine ⟨F', (e3 b hb).trans h1, fun j hj3 => ?_⟩
      rw [w2 _ _ _ hb]
      exact h2 j hj3
end IA
theorem i32nn {z : Int32} (hz : ¬ z < 0) : z.toInt = (z.toNatClampNeg : Int) := by
  have hz0 : (0 : Int) ≤ z.toInt := by
    have := Int32.not_lt.mp hz
    simpa using Int32.le_iff_toInt_le.mp this
  show z.toInt = ((z.toInt.toNat : Nat) : Int)
  omega
section JCP
variable {X : Cx} {cc : ByteArray} {own : String} {g : MT} {h h' : CT} {pc : Nat} {lv : List (Nat × Value)} {st : List Value} {index : Nat}
theorem J_copyx {t : Nat} {ty : FieldType} {a0 a : Nat} {sp dp n : Int32} (F : Fx X cc own) (hd : decode cc pc = .ok (.invokestatic index, 3)) (w1 : Cond.methodLink own index arraycopyName ∈ lw_G) (w2 : Cond.native arraycopyName ∈ lw_G) (w3 : Cond.static arraycopyName ∈ lw_G) (w4 : Cond.initialized "java/lang/System" ∈ lw_G) (hc : atys[t]? = some ty) (hp : refKind ty = false) (hfits : ∀ (v : Value) (b j : Nat), cn v = vk ty h b j → fits ty v = true ∧ ∀ (U : State) (c : ClassId), U.takes c v)
    (t0 : gT g a0 = t + 20) (t1 : gT g a = t + 20) (h1 : ¬ sp < 0) (h2 : ¬ dp < 0) (h3 : ¬ n < 0) (h4 : sp.toNatClampNeg + n.toNatClampNeg ≤ gL g a0) (h5 : dp.toNatClampNeg + n.toNatClampNeg ≤ gL g a) (hfr : 1 ≤ (xR X).frames) (hlo : (st.map fun v => v.category).sum + 40 ≤ (xR X).locals)
    (w5 : ∀ j, vk ty h' a j = va_cpy (vk ty h a0) (vk ty h a) sp.toNatClampNeg dp.toNatClampNeg n.toNatClampNeg j) (w6 : ∀ ty b j, b ≠ a → vk ty h' b j = vk ty h b j) (kk : J X g h' (pc + 3) lv st) : J X g h pc lv (.int n :: .int dp :: va_rf (some a) :: .int sp :: va_rf (some a0) :: st) := by
  intro H locs ls st' d0 a1 a2 a3 a4 b0
  obtain ⟨v0, s1, rfl, e0, b1⟩ := mc1 b0
  obtain ⟨v1, s2, rfl, e1, b2⟩ := mc1 b1
  obtain ⟨v2, s3, rfl, e2, b3⟩ := mc1 b2
  obtain ⟨v3, s4, rfl, e3, b4⟩ := mc1 b3
  obtain ⟨v4, q, rfl, e4, hq⟩ := mc1 b4
  cases cn_i e0; cases cn_i e1; cases cn_q e2; cases cn_i e3; cases cn_q e4
  obtain ⟨F0', c1, c2⟩ := Im_arr a2 t0 hc
  obtain ⟨F1, c3, c4⟩ := Im_arr a2 t1 hc
  have hts := dr_words F.2.2.2.2.1 d0
  have e : (q.map fun v => v.category) = (st.map fun v => v.category) := by rw [← hq, List.map_map]; exact List.map_congr_left fun v _ => (cn_cat v).symm
  obtain ⟨-, k0, hk0, cm0, hkk0⟩ := (F.2.2.2.2.2.1.2 t _ (tys_at hc)).1 (gL g a0) F0'
  intro T hT S
  have hnw : nativeFrameWords "java/lang/System" "arraycopy" 5 ≤ 20 := by decide
  obtain ⟨vm', X', step⟩ := S.arraycopy F.1 F.2.2.2.1 (hts _ w1) (hts _ w2) (hts _ w3) (hts _ w4) (src := a0) (dst := a) (cs := arrV ((xK X) t) (gL g a0) F0') (cd := arrV ((xK X) t) (gL g a) F1) (srcPos := sp) (destPos := dp) (n := n) (by rw [hT]; exact c1) (by rw [hT]; exact c3)
    (fun _ z => by cases z) (fun _ z => by cases z) (fun z => by cases z) (fun z => by cases z) hk0 hk0 hkk0 hkk0 (by simp [hp]) h1 h2 h3
    (by rw [i32nn h1, i32nn h3, arrV_size]; omega) (by rw [i32nn h2, i32nn h3, arrV_size]; omega)
    (fun vm₁ _ i hi => by
      have e : (arrV ((xK X) t) (gL g a0) F0').slots.getD (sp.toNatClampNeg + i) .null = F0' (sp.toNatClampNeg + i) := by
        rw [Array.getD_eq_getD_getElem?, arrV_read _ _ (by omega)]
        rfl
      rw [e]
      obtain ⟨f1, f2⟩ := hfits _ _ _ (c2 (sp.toNatClampNeg + i) (by omega))
      exact ⟨f1, f2 _ _⟩)
    (g := F0 (xm X) pc ls (.int n :: .int dp :: .ref a :: .int sp :: .ref a0 :: q)) rfl (a4.choose_spec.1.1.trans F.2.2.1.symm) (rest := q) rfl (by rw [F.2.1]; exact hd) hfr (by show 2 * 0 + _ + _ ≤ _; rw [e]; omega)
  have ec : copied (arrV ((xK X) t) (gL g a0) F0') (arrV ((xK X) t) (gL g a) F1) sp dp n = arrV ((xK X) t) (gL g a) (va_cpy F0' F1 sp.toNatClampNeg dp.toNatClampNeg n.toNatClampNeg) := va_copied (fun z => z) ((xK X) t) ((xK X) t) F0' F1 h4
  rw [ec] at X' step
  have hl : a < H.size := (Array.getElem?_eq_some_iff.mp c3).1
  have hheap : ((T.setVm vm').setCell a (arrV ((xK X) t) (gL g a) (va_cpy F0' F1 sp.toNatClampNeg dp.toNatClampNeg n.toNatClampNeg))).heap = H.setIfInBounds a (arrV ((xK X) t) (gL g a) (va_cpy F0' F1 sp.toNatClampNeg dp.toNatClampNeg n.toNatClampNeg)) := by rw [← hT]; rfl
  generalize hH1 : H.setIfInBounds a (arrV ((xK X) t) (gL g a) (va_cpy F0' F1 sp.toNatClampNeg dp.toNatClampNeg n.toNatClampNeg)) = H1 at hheap
  have z1 : H1[a]? = some (arrV ((xK X) t) (gL g a) (va_cpy F0' F1 sp.toNatClampNeg dp.toNatClampNeg n.toNatClampNeg)) := by rw [← hH1]; simp [Array.getElem?_setIfInBounds, hl]
  have z2 : H1.size = H.size := by rw [← hH1]; simp
  have z3 : ∀ q : Nat, q ≠ a → H1[q]? = H[q]? := fun q hq => by rw [← hH1]; simp [Array.getElem?_setIfInBounds, Ne.symm hq]
  have hB : xB X ≤ a := (a2.2 a).1 (by omega)
  have I' : Img (xB X) (xD X) (xK X) g h' H1 := Im_aset a2 t1 hc z1 z2 z3 (fun j hj => by
    rw [w5 j]
    simp only [va_cpy]
    split
    · exact c2 _ (by omega)
    · exact c4 _ hj) w6
  obtain ⟨t2, r1, r2⟩ := kk H1 _ ls q d0 a1 I' ⟨by rw [z2]; exact a3.1, fun q g1 g2 => by rw [z3 q (fun z => g2 (by rw [z]; exact hB))]; exact a3.2.1 q g1 g2, fun q hq => by
      rcases List.mem_append.mp hq with z | z
      · exact a3.2.2 q z
      · obtain ⟨w, -, hw⟩ := List.mem_map.mp z
        rw [← hw]
        exact hB⟩ a4 hq _ hheap X'
  exact ⟨t2, step t2 r1, r2⟩
theorem J_copyL {a0 a : Nat} {sp dp n : Int32} (F : Fx X cc own) (hd : decode cc pc = .ok (.invokestatic index, 3)) (w1 : Cond.methodLink own index arraycopyName ∈ lw_G) (w2 : Cond.native arraycopyName ∈ lw_G) (w3 : Cond.static arraycopyName ∈ lw_G) (w4 : Cond.initialized "java/lang/System" ∈ lw_G)
    (t0 : gT g a0 = 21) (t1 : gT g a = 21) (h1 : ¬ sp < 0) (h2 : ¬ dp < 0) (h3 : ¬ n < 0) (h4 : sp.toNatClampNeg + n.toNatClampNeg ≤ gL g a0) (h5 : dp.toNatClampNeg + n.toNatClampNeg ≤ gL g a) (hfr : 1 ≤ (xR X).frames) (hlo : (st.map fun v => v.category).sum + 40 ≤ (xR X).locals)
    (kk : J X g (cpL h a0 a sp.toNatClampNeg dp.toNatClampNeg n.toNatClampNeg) (pc + 3) lv st) : J X g h pc lv (.int n :: .int dp :: va_rf (some a) :: .int sp :: va_rf (some a0) :: st) :=
  J_copyx (t := 1) (ty := .long) F hd w1 w2 w3 w4 rfl rfl (fun v b j hv => by cases cn_l hv; exact ⟨rfl, fun _ _ => trivial⟩) t0 t1 h1 h2 h3 h4 h5 hfr hlo (fun j => by simp only [vk, hL, cpL, if_true, va_cpy]; split <;> rfl) (fun ty b j hb => by cases ty <;> simp [vk, hI, hL, hD, hR, cpL, hb]) kk
theorem J_copyD {a0 a : Nat} {sp dp n : Int32} (F : Fx X cc own) (hd : decode cc pc = .ok (.invokestatic index, 3)) (w1 : Cond.methodLink own index arraycopyName ∈ lw_G) (w2 : Cond.native arraycopyName ∈ lw_G) (w3 : Cond.static arraycopyName ∈ lw_G) (w4 : Cond.initialized "java/lang/System" ∈ lw_G)
    (t0 : gT g a0 = 22) (t1 : gT g a = 22) (h1 : ¬ sp < 0) (h2 : ¬ dp < 0) (h3 : ¬ n < 0) (h4 : sp.toNatClampNeg + n.toNatClampNeg ≤ gL g a0) (h5 : dp.toNatClampNeg + n.toNatClampNeg ≤ gL g a) (hfr : 1 ≤ (xR X).frames) (hlo : (st.map fun v => v.category).sum + 40 ≤ (xR X).locals)
    (kk : J X g (cpD h a0 a sp.toNatClampNeg dp.toNatClampNeg n.toNatClampNeg) (pc + 3) lv st) : J X g h pc lv (.int n :: .int dp :: va_rf (some a) :: .int sp :: va_rf (some a0) :: st) :=
  J_copyx (t := 2) (ty := .double) F hd w1 w2 w3 w4 rfl rfl (fun v b j hv => by obtain ⟨y, rfl, -⟩ := cn_d hv; exact ⟨rfl, fun _ _ => trivial⟩) t0 t1 h1 h2 h3 h4 h5 hfr hlo (fun j => by simp only [vk, hD, cpD, if_true, va_cpy]; split <;> rfl) (fun ty b j hb => by cases ty <;> simp [vk, hI, hL, hD, hR, cpD, hb]) kk
end JCP
def cpk {α : Type} (sp dp n : Int32) (n0 n1 : Nat) (k : Option α) : Option α := if ¬ sp < 0 ∧ ¬ dp < 0 ∧ ¬ n < 0 ∧ sp.toNatClampNeg + n.toNatClampNeg ≤ n0 ∧ dp.toNatClampNeg + n.toNatClampNeg ≤ n1 then k else none
theorem cpk_i {α : Type} {sp dp n : Int32} {n0 n1 : Nat} {k : Option α} {x : α} (h : cpk sp dp n n0 n1 k = some x) : (¬ sp < 0 ∧ ¬ dp < 0 ∧ ¬ n < 0 ∧ sp.toNatClampNeg + n.toNatClampNeg ≤ n0 ∧ dp.toNatClampNeg + n.toNatClampNeg ≤ n1) ∧ k = some x := by
  unfold cpk at h
  split at h
  · exact ⟨by assumption, h⟩
  · cases h
def kQ {α : Type} (v : Value) (k : Option Nat → Option α) : Option α := match v with
  | .ref x => k (some x)
  | .null => k none
  | _ => none
theorem kQ_i {α : Type} {v : Value} {k : Option Nat → Option α} {x : α} (h : kQ v k = some x) : ∃ y, v = va_rf y ∧ k y = some x := by
  cases v <;> first | exact ⟨some _, rfl, h⟩ | exact ⟨none, rfl, h⟩ | cases h
section ZC
variable {X : Cx} {G : Gx} {cc : ByteArray} {own nm : String} {maxL dk : Nat} {ret : Option FieldType} {r : Option Value} {g : MT} {h' : CT}
theorem zO4 {n : Nat} (Z : Zx X G cc own maxL dk ret r g h') (h : 1 ≤ dk) (hs : n ≤ 8) : n + 40 ≤ (xR X).locals := by rw [Z.2.2.2.2.1]; omega
theorem yO4 {n : Nat} (Z : Zy X G cc own maxL dk ret r nm g h') (h : 1 ≤ dk) (hs : n ≤ 8) : n + 40 ≤ (xR X).locals := by rw [Z.2.2.2.1]; omega
end ZC
def nr {α : Type} (ty : FieldType) (x : Int32) (k : Option α) : Option α := if narrow ty (.int x) = .int x then k else none
theorem nr_i {α : Type} {ty : FieldType} {y : Int32} {k : Option α} {x : α} (h : nr ty y k = some x) : narrow ty (.int y) = .int y ∧ k = some x := by
  unfold nr at h
  split at h
  · exact ⟨by assumption, h⟩
  · cases h
section JNR
variable {X : Cx} {cc : ByteArray} {own : String} {g : MT} {h : CT} {pc : Nat} {lv : List (Nat × Value)} {G : Gx}
theorem J_nret {x : Int32} {ty : FieldType} (F : Fx X cc own) (Rt : RT X G (some ty) (some (.int x)) g h) (hn : narrow ty (.int x) = .int x) (hd : decode cc pc = .ok (.ireturn, 1)) : J X g h pc lv [.int x] := by
  intro H locs ls st' d0 a1 a2 a3 a4 b0
  obtain ⟨w1, s2, rfl, e1, b1⟩ := mc1 b0
  cases cn_i e1
  cases s2 with
  | cons a t => cases b1
  | nil =>
    obtain ⟨r1, r2, r3⟩ := Rt
    rw [r2]
    exact W.endD a1 (W.zret F.1 F.2.1 r1 hn (rt_q F r3 rfl a2 a3) a3.2.2 hd F.2.2.2.2.2.2.2.1)
end JNR
