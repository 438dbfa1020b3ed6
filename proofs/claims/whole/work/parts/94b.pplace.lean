/-! a run's cells; what an element may touch -/
section ELM
variable {B b L : Nat} {E : EC} {xs : Nat → Int32} {op st bt : Nat → Nat} {aL aS aO : Nat} {g : MT} {h h' h1 h2 hr hr' : CT} {q z p : Nat} {f : Nat → Nat}
abbrev QZ (B q z : Nat) : Prop := (q = B + 13 ∧ z = B + 138) ∨ (q = B + 145 ∧ z = B + 176)
def SC (B : Nat) (h : CT) : Prop := is01 (hI h (B + 136) 1) ∧ is01 (hI h (B + 137) 1)
/-- the cells of a run: the Runner's links, the machine, the TIMES, the powers of 2 -/
def RunC (B q z : Nat) (g : MT) (h : CT) : Prop := PtC B (hR h) ∧ hR h (B + 132) 4 = some q ∧ hR h (B + 132) 5 = some z ∧ MachA g (hR h) q ∧ TimA g (hR h) z ∧ PowR B h ∧ SC B h
theorem RunC.keep (R : RunC B q z g h) (eR : hR h' = hR h) (eP : hD h' (B + 131) = hD h (B + 131)) (eS : SC B h') : RunC B q z g h' := by
  obtain ⟨r1, r2, r3, r4, r5, r6, r7⟩ := R
  refine ⟨by rw [eR]; exact r1, by rw [eR]; exact r2, by rw [eR]; exact r3, by rw [eR]; exact r4, by rw [eR]; exact r5, fun k hk => ?_, eS⟩
  rw [eP]; exact r6 k hk
/-- scratch alone: x, y, and what is taken apart -/
def XFr (B : Nat) (h h' : CT) : Prop := hR h' = hR h ∧ (∀ w, w ≠ B + 136 → w ≠ B + 137 → w ≠ B + 130 → Eqa h h' w) ∧ (∀ k, k ≠ 4 → hI h' (B + 130) k = hI h (B + 130) k) ∧ (∀ k, k ≠ 3 → hL h' (B + 130) k = hL h (B + 130) k) ∧ SC B h'
theorem XFr.rf (s : SC B h) : XFr B h h := ⟨rfl, fun w _ _ _ => Eqa.rf h w, fun _ _ => rfl, fun _ _ => rfl, s⟩
theorem XFr.tr (x : XFr B h h1) (y : XFr B h1 h2) : XFr B h h2 := ⟨y.1.trans x.1, fun w a b c => (x.2.1 w a b c).tr (y.2.1 w a b c), fun k hk => (y.2.2.1 k hk).trans (x.2.2.1 k hk), fun k hk => (y.2.2.2.1 k hk).trans (x.2.2.2.1 k hk), y.2.2.2.2⟩
theorem numW_L (h : CT) (a : Nat) (v : UInt64) (o : Int32) : hL (numW h a v o) = hL h := rfl
theorem numW_R (h : CT) (a : Nat) (v : UInt64) (o : Int32) : hR (numW h a v o) = hR h := rfl
theorem XFr.x (x : XFr B h h1) {v : UInt64} {o : Int32} (ho : is01 o) : XFr B h (numW h1 (B + 136) v o) := ⟨x.1, fun w a b c => (x.2.1 w a b c).num a, fun k hk => by rw [numW_I _ _ _ _ (by omega)]; exact x.2.2.1 k hk, x.2.2.2.1, by rw [numW_i]; exact ho, by rw [numW_I _ _ _ _ (by omega)]; exact x.2.2.2.2.2⟩
theorem XFr.y (x : XFr B h h1) {v : UInt64} {o : Int32} (ho : is01 o) : XFr B h (numW h1 (B + 137) v o) := ⟨x.1, fun w a b c => (x.2.1 w a b c).num b, fun k hk => by rw [numW_I _ _ _ _ (by omega)]; exact x.2.2.1 k hk, x.2.2.2.1, by rw [numW_I _ _ _ _ (by omega)]; exact x.2.2.2.2.1, by rw [numW_i]; exact ho⟩
theorem XFr.run (x : XFr B h h1) (R : RunC B q z g h) : RunC B q z g h1 := R.keep x.1 (x.2.1 (B + 131) (by omega) (by omega) (by omega)).2.2.1 x.2.2.2.2
theorem XFr.dm (x : XFr B h h1) (Q : QZ B q z) (D : DM B q h hr) : DM B q h1 hr := D.keep2 (fun j hj => ⟨(x.2.1 (q + j) (by omega) (by omega) (by omega)).1, (x.2.1 (q + j) (by omega) (by omega) (by omega)).2.2.1⟩) (fun _ _ _ => rfl) (fun _ _ _ => rfl)
theorem XFr.ic (x : XFr B h h1) (I : IC op g h p f) (hp : p < B ∨ B + 205 ≤ p) : IC op g h1 p f := I.keep (x.2.1 p (by omega) (by omega) (by omega)).1 (by rw [x.1])
theorem no_instr : ∀ o, o < 205 → (match stg[o]? with | some q => q.1 != 2 | none => false) = true := by decide +kernel
theorem ic_out (S : Sh B g) (T : gT g p = 2) : p < B ∨ B + 205 ≤ p := by
  by_cases c : p < B ∨ B + 205 ≤ p
  · exact c
  · exfalso
    have k := no_instr (p - B) (by omega)
    split at k
    · rename_i q hq
      have e := (S.2 (p - B) q hq).1
      rw [show B + (p - B) = p by omega, T] at e
      rw [← e] at k
      exact absurd k (by decide)
    · cases k
/-- machine, scratch, the count of what is packed -/
def CFr (B q : Nat) (h h' : CT) : Prop := hR h' = hR h ∧ (∀ y, (y < q ∨ q + 26 < y) → y ≠ B + 130 → y ≠ B + 132 → y ≠ B + 136 → y ≠ B + 137 → Eqa h h' y) ∧ (∀ j, j ≠ 4 → hI h' q j = hI h q j) ∧ (∀ j, j ≠ 10 → hI h' (B + 132) j = hI h (B + 132) j) ∧ (∀ k, k ≠ 4 → hI h' (B + 130) k = hI h (B + 130) k) ∧ (∀ k, k ≠ 3 → hL h' (B + 130) k = hL h (B + 130) k) ∧ SC B h'
theorem CFr.tr (x : CFr B q h h1) (y : CFr B q h1 h2) : CFr B q h h2 := ⟨y.1.trans x.1, fun w a b c d e => (x.2.1 w a b c d e).tr (y.2.1 w a b c d e), fun j hj => (y.2.2.1 j hj).trans (x.2.2.1 j hj), fun j hj => (y.2.2.2.1 j hj).trans (x.2.2.2.1 j hj), fun j hj => (y.2.2.2.2.1 j hj).trans (x.2.2.2.2.1 j hj), fun j hj => (y.2.2.2.2.2.1 j hj).trans (x.2.2.2.2.2.1 j hj), y.2.2.2.2.2.2⟩
theorem XFr.c (x : XFr B h h1) (Q : QZ B q z) : CFr B q h h1 := ⟨x.1, fun y _ b _ d e => x.2.1 y d e b, fun j _ => by rw [(x.2.1 q (by omega) (by omega) (by omega)).1], fun j _ => by rw [(x.2.1 (B + 132) (by omega) (by omega) (by omega)).1], x.2.2.1, x.2.2.2.1, x.2.2.2.2⟩
theorem DFr.c (x : DFr q h h1) (Q : QZ B q z) (s : SC B h) : CFr B q h h1 := ⟨x.1, fun y a _ _ _ _ => x.2.1 y a, x.2.2, fun j _ => by rw [(x.2.1 (B + 132) (by omega)).1], fun k _ => by rw [(x.2.1 (B + 130) (by omega)).1], fun k _ => by rw [(x.2.1 (B + 130) (by omega)).2.1], by rw [(x.2.1 (B + 136) (by omega)).1]; exact s.1, by rw [(x.2.1 (B + 137) (by omega)).1]; exact s.2⟩
theorem CFr.run (x : CFr B q h h1) (Q : QZ B q z) (R : RunC B q z g h) : RunC B q z g h1 := R.keep x.1 (x.2.1 (B + 131) (by omega) (by omega) (by omega) (by omega) (by omega)).2.2.1 x.2.2.2.2.2.2
theorem CFr.ic (x : CFr B q h h1) (Q : QZ B q z) (I : IC op g h p f) (hp : p < B ∨ B + 205 ≤ p) : IC op g h1 p f := I.keep (x.2.1 p (by omega) (by omega) (by omega) (by omega) (by omega)).1 (by rw [x.1])
/-- in the reference: the machine's rows, what is packed -/
def QFr (B : Nat) (h h' : CT) : Prop := hR h' = hR h ∧ (∀ y, y ≠ B + 187 → y ≠ B + 192 → y ≠ B + 193 → Eqa h h' y) ∧ (∀ k, k ≠ 42 → hI h' (B + 187) k = hI h (B + 187) k) ∧ hL h' (B + 187) = hL h (B + 187) ∧ (∀ i, i ≠ 3 → i ≠ 4 → hI h' (B + 192) i = hI h (B + 192) i) ∧ ∀ i, 164 ≤ i → hD h' (B + 193) i = hD h (B + 193) i
theorem QFr.rf (B : Nat) (h : CT) : QFr B h h := ⟨rfl, fun y _ _ _ => Eqa.rf h y, fun _ _ => rfl, rfl, fun _ _ _ => rfl, fun _ _ => rfl⟩
theorem DFR.qf (x : DFR B h h1) : QFr B h h1 := ⟨x.1, fun y _ b c => x.2.1 y b c, fun k _ => by rw [(x.2.1 (B + 187) (by omega) (by omega)).1], (x.2.1 (B + 187) (by omega) (by omega)).2.1, x.2.2.1, x.2.2.2⟩
theorem QFr.im {ik : Nat} (x : QFr B h h1) (I : IM B h ik f) : IM B h1 ik f := I.keep fun i hi => x.2.2.2.2.1 i (by omega) (by omega)
/-- the place of element i, in both: the same -/
theorem place_mem (K : EOK E b L xs op st bt aL aS aO) (S : Sh B g) (p2 : PtR B (hR hr)) (Q : QZ B q z) (R : RunC B q z g h) (D : DM B q h hr) (I : IC op g h p f) (hf : FOK f) (hm : isMm (f 0)) {ik i : Nat} (hk : ik < 30) (M : IM B hr ik f) (hi : i < 16) (eb : hI hr (B + 187) 33 = hI h (B + 132) 9)
    (hx : isIx (f 0) → ¬ pX13_isIndex (hD hr (B + 193) (16 * f 3 + i)) = 0) :
    ∃ v h1, pX9_placeOf E g h (B + 132) p (nI i) = some (v, h1) ∧ pX13_placeOf g hr (B + 187) (nI ik) (nI i) = some v ∧ XFr B h h1 := by
  obtain ⟨r1, r2, r3, r4, r5, r6, r7⟩ := R
  have hp := ic_out S I.1
  obtain ⟨a0, a1, a2, a3, a4, a5, a6, a7⟩ := im_at S p2 hk M
  obtain ⟨-, -, -, -, -, m6, -⟩ := kt_m (f 0) hf.1
  have e5 := I.2.2 5 (by decide) (by decide)
  have e6 := I.2.2 6 (by decide) (by decide)
  have e3 := I.2.2 3 (by decide) (by decide)
  rw [if_neg (show ¬ (f 0 = 0 ∨ f 0 = 25) by omega)] at a4
  by_cases c : isIx (f 0)
  · have hx := hx c
    have hN := dm_num D hf.2.2.2.1 hi
    have T137 := st_137 S
    have ft := mac_fetch (t := B + 137) r4 D.bits hf.2.2.2.1 hi T137
    have al := n_asLong (h := numW h (B + 137) (hD h (q + 3 + 3 * f 3) i) (hI h (q + 4 + 3 * f 3) i)) (x := hD hr (B + 193) (16 * f 3 + i)) T137 (by rw [numW_d, numW_i]; exact hN)
    obtain ⟨i1, i2, i3⟩ := idx_cut hx
    refine ⟨nI (f 5) + FP.d2i (hD hr (B + 193) (16 * f 3 + i)), numW h (B + 137) (hD h (q + 3 + 3 * f 3) i) (hI h (q + 4 + 3 * f 3) i), ?_, ?_, (XFr.rf r7).y hN.1⟩
    · unfold pX9_placeOf
      rw [w_tg (st_132 S), w_tg I.1, w_lt, I.2.1, w_nn, w_tg (k_tag K hf.1), d_rB K hf.1, w_bd]
      simp only [b01, ite_not]
      rw [if_pos (show rdB (f 0) by omega), w_lt, r2, w_lt, pc_132_3 r1, w_nn, w_tg r4.1, w_nn, e3, ft, w_bd, w_lt, numW_R, pc_132_3 r1, w_nn, w_tg T137, al, w_bd, numW_I _ _ _ _ (by omega), e5, i1]
    · unfold pX13_placeOf
      rw [w_tg (st_187 S), a0, w_bd, a4, w_bd]
      simp only [m6, ite_not]
      rw [if_pos c, w_lt, pr_187_20 p2, a3, w_bd, w_nn, w_tg (st_193 S), sl_193 S, r_cell, w_ix (show 16 * f 3 + i < 984 by have := hf.2.2.2.1; omega) (by decide), nI_clamp (by have := hf.2.2.2.1; omega)]
  · rw [if_pos (show f 0 = 3 ∨ f 0 = 4 by omega)] at a5
    refine ⟨nI (f 5) + nI (f 6) * (hI h (B + 132) 9 + nI i), h, ?_, ?_, XFr.rf r7⟩
    · unfold pX9_placeOf
      rw [w_tg (st_132 S), w_tg I.1, w_lt, I.2.1, w_nn, w_tg (k_tag K hf.1), d_rB K hf.1, w_bd]
      simp only [b01, ite_not]
      rw [if_neg (show ¬ rdB (f 0) by omega), e5, e6]
    · unfold pX13_placeOf
      rw [w_tg (st_187 S), a0, w_bd, a4, w_bd]
      simp only [m6, ite_not]
      rw [if_neg c, a5, w_bd, eb]
/-- whether one may gather, scatter by it -/
theorem offset_fits (S : Sh B g) (Q : QZ B q z) (R : RunC B q z g h) (D : DM B q h hr) (I : IC op g h p f) (hf : FOK f) {i : Nat} (hi : i < 16) : ∃ h1, pX9_offsetFits g h (B + 132) p (nI i) = some (pX13_isIndex (hD hr (B + 193) (16 * f 3 + i)), h1) ∧ XFr B h h1 := by
  obtain ⟨r1, r2, r3, r4, r5, r6, r7⟩ := R
  have e3 := I.2.2 3 (by decide) (by decide)
  have hN := dm_num D hf.2.2.2.1 hi
  have T137 := st_137 S
  have ft := mac_fetch (t := B + 137) r4 D.bits hf.2.2.2.1 hi T137
  have io := n_isOffset (h := numW h (B + 137) (hD h (q + 3 + 3 * f 3) i) (hI h (q + 4 + 3 * f 3) i)) (x := hD hr (B + 193) (16 * f 3 + i)) T137 (by rw [numW_d, numW_i]; exact hN)
  have i01 : is01 (pX13_isIndex (hD hr (B + 193) (16 * f 3 + i))) := by
    unfold pX13_isIndex
    split
    · exact is01_0
    · split
      · exact is01_0
      · split
        · exact is01_1
        · exact is01_0
  refine ⟨numW h (B + 137) (hD h (q + 3 + 3 * f 3) i) (hI h (q + 4 + 3 * f 3) i), ?_, (XFr.rf r7).y hN.1⟩
  unfold pX9_offsetFits
  rw [w_tg (st_132 S), w_lt, r2, w_tg I.1, w_lt, pc_132_3 r1, w_nn, w_tg r4.1, w_nn, e3, ft, w_bd, w_lt, numW_R, pc_132_3 r1, w_nn, w_tg T137, io, w_bd, w_bz i01]
end ELM
