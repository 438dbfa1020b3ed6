/-! an element, all of it: TAKEN and done, or a TRAP, in both -/
section ELS
variable {B b L : Nat} {E : EC} {xs : Nat → Int32} {op st bt : Nat → Nat} {aL aS aO : Nat} {g : MT} {h h' h1 h2 hr hr' hr1 : CT} {q z p : Nat} {f : Nat → Nat} {ik n nb y : Nat} {F : Nat → Nat → Nat} {G G0 : Nat → Nat → Int32}
theorem r_place (S : Sh B g) (p2 : PtR B (hR hr)) (hk : ik < 30) (M : IM B hr ik f) (hf : FOK f) (hm : isMm (f 0)) {i : Nat} (hi : i < 16) : pX13_placeOf g hr (B + 187) (nI ik) (nI i) = some (if isIx (f 0) then nI (f 5) + FP.d2i (hD hr (B + 193) (16 * f 3 + i)) else nI (f 5) + nI (f 6) * (hI hr (B + 187) 33 + nI i)) := by
  obtain ⟨a0, a1, a2, a3, a4, a5, a6, a7⟩ := im_at S p2 hk M
  obtain ⟨-, -, -, -, -, m6, -⟩ := kt_m (f 0) hf.1
  rw [if_neg (show ¬ (f 0 = 0 ∨ f 0 = 25) by omega)] at a4
  have l3 := hf.2.2.2.1
  unfold pX13_placeOf
  rw [w_tg (st_187 S), a0, w_bd, a4, w_bd]
  simp only [m6, ite_not]
  by_cases c : isIx (f 0)
  · rw [if_pos c, if_pos c, w_lt, pr_187_20 p2, a3, w_bd, w_nn, w_tg (st_193 S), sl_193 S, r_cell, w_ix (show 16 * f 3 + i < 984 by omega) (by decide), nI_clamp (by omega)]
  · rw [if_pos (show f 0 = 3 ∨ f 0 = 4 by omega)] at a5
    rw [if_neg c, if_neg c, a5, w_bd]
theorem tkF_le {i s k T : Nat} (hF : ∀ a j, F a j ≤ T) (hs : s ≤ T + 1) (hb : isMm (f 0) → F 6 k ≤ s + 11) (hy : y ≤ 12) (a j : Nat) : tkF F f i s k y a j ≤ T + 13 := by
  have l1 := tk1_le (f := f) (i := i) hF hs
  have l2 := tk2_le (f := f) (i := i) (k := k) hF hs
  have la := laN_le (f 0)
  have h00 := hF 0 0
  have h01 := hF 0 1
  have h0j := hF 0 j
  have h4j := hF 4 j
  have h5j := hF 5 j
  have h6j := hF 6 j
  have haj := hF a j
  have st : tk2 F f i s k - tk1 F f i s ≤ 11 := by
    unfold tk2
    by_cases c : isMm (f 0)
    · rw [if_pos c]; have := hb c; omega
    · rw [if_neg c]; omega
  clear hF hb
  unfold tkF
  generalize tk2 F f i s k - tk1 F f i s = d at *
  generalize tk2 F f i s k = w at *
  split
  · split
    · split <;> omega
    · split
      · omega
      · split <;> omega
  · split
    · split <;> omega
    · split
      · split <;> omega
      · split
        · split <;> omega
        · omega
theorem tkF_8 (F : Nat → Nat → Nat) (f : Nat → Nat) (i s k y : Nat) : tkF F f i s k y 0 8 = F 0 8 := by
  unfold tkF
  rw [if_pos rfl, if_neg (by decide), if_neg (by decide), if_neg (by decide)]
theorem tkF_10 (F : Nat → Nat → Nat) (f : Nat → Nat) (i s k y : Nat) : tkF F f i s k y 0 10 = tk2 F f i s k := by
  unfold tkF
  rw [if_pos rfl, if_neg (by decide), if_neg (by decide), if_pos rfl]
theorem tkF_6 {i k T : Nat} (hF : ∀ a j, F a j ≤ T) (hb : ∀ b, F 6 b ≤ tkS F i + 11) (hy : y ≤ 12) (b : Nat) : tkF F f i (tkS F i) k y 6 b ≤ tkS (tkF F f i (tkS F i) k y) (i + 1) + 11 := by
  have l1 := tk1_le (f := f) (i := i) hF (tkS_le hF i)
  have l2 := tk2_le (f := f) (i := i) (k := k) hF (tkS_le hF i)
  have hb' := hb b
  have e : tkS (tkF F f i (tkS F i) k y) (i + 1) = max (F 0 8 - 1) (tk2 F f i (tkS F i) k + 1) := by
    rw [tkS, if_neg (by omega), tkF_8, tkF_10]
  rw [e]
  have e6 : tkF F f i (tkS F i) k y 6 b = if isMm (f 0) ∧ b = k then tk2 F f i (tkS F i) k + y else F 6 b := by
    unfold tkF
    rw [if_neg (by decide), if_neg (by decide), if_neg (by decide), if_pos rfl]
  rw [e6]
  split <;> omega
theorem el_step (K : EOK E b L xs op st bt aL aS aO) (S : Sh B g) (Q : QZ B q z) (X : SP B q z op g p f ik n nb y h hr) (hf : FOK f) (he : isEl (f 0)) (hk : ik < 30) {i t T pk : Nat} {last : Int32} (hin : i < n) (hn : n ≤ 16) (nb1 : 1 ≤ nb) (nb2 : nb ≤ 16) (y1 : 1 ≤ y) (y2 : y ≤ 12) (hmiss : i = 0 → pX13_missesRow g hr (B + 187) (nI ik) = some 0)
    (C : TC z h F G) (Ct : TR B y hr F G0) (h8 : F 0 8 = t + 1) (hF : ∀ a j, F a j ≤ T) (hT : T + 100 < 2 ^ 30) (hbk : isMm (f 0) → ∀ b, F 6 b ≤ tkS F i + 11) (hlast : (i = 0 ∧ last = -1) ∨ (0 < i ∧ last = nI (F 0 10))) (k1 : hI h (B + 132) 10 = nI pk) (k2 : hI hr (B + 187) 42 = nI pk) (hpk : pk ≤ i) (fu fu' : Nat) :
    (∃ h' hr' k pk', pX9_doElements_l35 E g (B + 132) (nI ik) p (fu + 1) (nI i) h = pX9_doElements_l35 E g (B + 132) (nI ik) p fu (nI (i + 1)) h' ∧ pX13_elements_l18 g (B + 187) (nI ik) (nI t) (fu' + 1) (nI (f 0)) last (nI i) hr = pX13_elements_l18 g (B + 187) (nI ik) (nI t) fu' (nI (f 0)) (nI (tk2 F f i (tkS F i) k)) (nI (i + 1)) hr'
      ∧ SP B q z op g p f ik n nb y h' hr' ∧ TC z h' (tkF F f i (tkS F i) k y) (up2 G 2 ik (nI (tk2 F f i (tkS F i) k))) ∧ TR B y hr' (tkF F f i (tkS F i) k y) G0 ∧ (pk' ≤ i + 1 ∧ (pk' = pk ∨ f 0 = 21) ∧ hI h' (B + 132) 10 = nI pk' ∧ hI hr' (B + 187) 42 = nI pk') ∧ NFr B q z h h' ∧ MFr B hr hr' ∧ ∀ j, j = 3 ∨ j = 4 ∨ j = 5 → hI h' z j = hI h z j)
    ∨ ∃ h' hr' c, (c = 1 ∨ c = 3) ∧ pX9_doElements_l35 E g (B + 132) (nI ik) p (fu + 1) (nI i) h = some (0, trC z h' c ik i) ∧ pX13_elements_l18 g (B + 187) (nI ik) (nI t) (fu' + 1) (nI (f 0)) last (nI i) hr = some (last, trR B hr' c ik i)
      ∧ SP B q z op g p f ik n nb y h' hr' ∧ TC z h' F G ∧ TR B y hr' F G0 ∧ NFr B q z h h' ∧ MFr B hr hr' := by
  have XX := X
  obtain ⟨R, p2, D, I, M, ⟨e5, e6, e7⟩, ⟨v0, v1, v2⟩, eb, tr0, ov0⟩ := X
  have hp := ic_out S I.1
  have hi : i < 16 := by omega
  have l1 := hf.2.1
  have u10 := hF 0 10
  have u8 := hF 0 8
  obtain ⟨-, -, -, m4, -, -, -, -, m9, m10⟩ := kt_m (f 0) hf.1
  have sT := tkS_le hF i
  have hs : pJ9_max_7cf53 (nI t) (last + 1) = nI (tkS F i) := by
    rcases hlast with ⟨c, rfl⟩ | ⟨c, rfl⟩
    · rw [tkS, if_pos c, h8, show (-1 : Int32) + 1 = nI 0 from rfl, max_nI (by omega) (by omega)]
      congr 1
      omega
    · rw [tkS, if_neg (by omega), h8, nI_1, max_nI (by omega) (by omega)]
      rfl
  rcases el_prep K S Q XX hf he hk hin hn nb1 nb2 hmiss (pX9_doElements_l35 E g (B + 132) (nI ik) p fu) with ⟨ha, pl, bk, k, c1, c2, c3, c4, c5⟩ | ⟨ha, c, hc, c1, c2, c3⟩
  · left
    have Xa := XX.x S Q c2
    have Ra := c2.run R
    have Ia := c2.ic I hp
    have Ca : TC z ha F G := C.rw fun w w1 w2 => c2.zz Q w1 w2
    -- the class: TAKEN
    obtain ⟨hb, t1, t2, t3⟩ := t_take K Ra.2.2.2.2.1 Ca (T := T) (y := y) Ia (ic_outz S Q Ia.1) hf he hi hk hF (by omega) y2 (by omega) c3
    have Xb := Xa.t S Q t3
    have q7 : hI ha q 7 = nI y := Xa.2.2.2.2.2.1.2.2
    -- the reference: TAKEN
    obtain ⟨r1, r2, r3, d1, d2, d3, d4, d5⟩ := r_take S p2 Ct hk M hf he (i := i) (k := k) (s := tkS F i) (t := t) (nb := nb) (last := last) hi hF (by omega) hs sT nb1 nb2 y1 y2 v1 v2 (fun hm => by
      obtain ⟨w, w1, w2, w3, w4⟩ := c4.get hm
      exact ⟨w, w3, w2, w4⟩)
    have Xc := Xb.r d5
    obtain ⟨Rc, pc2, Dc, Ic, Mc, Vc, Wc, ebc, trc, ovc⟩ := Xc
    -- the element
    have k1' : hI hb (B + 132) 10 = nI pk := by rw [t3.br Q, c2.br]; exact k1
    have k2' : hI r3 (B + 187) 42 = nI pk := by rw [d5.2.2.1 42 (by decide) (by decide)]; exact k2
    have hpl : isMm (f 0) → ∃ w, pl = nI w ∧ w < 64 ∧ pX13_placeOf g r3 (B + 187) (nI ik) (nI i) = some (nI w) := fun hm => by
      obtain ⟨w, w1, w2, w3, w4⟩ := c4.get hm
      refine ⟨w, w1, w2, ?_⟩
      rw [r_place S p2 hk M hf hm hi] at w3
      rw [r_place S pc2 hk Mc hf hm hi, (d5.2.1 (B + 193) (by omega) (by omega)).2.2.1, d5.2.2.1 33 (by decide) (by decide)]
      exact w3
    obtain ⟨hd, hr4, f1, f2, f3, f4, f5, pk', f6, f7, f8, f9⟩ := el_both K S pc2 Q Rc Dc Ic hf he hk Mc hi hpl k1' k2' hpk
    clear hpl
    have Xd := Xb.r d5 |>.e S Q f3 f4 f5
    have Cd : TC z hd (tkF F f i (tkS F i) k y) (up2 G 2 ik (nI (tk2 F f i (tkS F i) k))) := t2.rw fun w w1 w2 => f4.zz Q w1 w2
    have Ce : TR B y hr4 (tkG F f i (tkS F i) k y) G0 := d4.rw (fun j hj => f5.fl hj) (fun w w1 w2 => f5.t w1 w2)
    have tt : ∀ j, j = 3 ∨ j = 4 ∨ j = 5 → hI hd z j = hI h z j := fun j hj => by
      rw [f4.zz Q (Nat.le_refl z) (Nat.le_add_right z 6), t3.2.2 j hj, c2.zz Q (Nat.le_refl z) (Nat.le_add_right z 6)]
    have nf : NFr B q z h hd := (c2.c Q).nf.tr ((t3.nf Q Ra.2.2.2.2.2.2).tr f4.nf)
    have cls : pX9_doElements_l35 E g (B + 132) (nI ik) p (fu + 1) (nI i) h = pX9_doElements_l35 E g (B + 132) (nI ik) p fu (nI (i + 1)) hd := by
      rw [pX9_doElements_l35, c1]
      unfold pX9_doElements_b130
      rw [w_lt, w_lt, Ra.2.1, w_nn, w_tg Ra.2.2.2.1.1, Ra.2.2.1, w_nn, w_tg Ra.2.2.2.2.1.1, q7, t1, w_bd, f1, w_bd, w_lt, nI_1]
    have ref : pX13_elements_l18 g (B + 187) (nI ik) (nI t) (fu' + 1) (nI (f 0)) last (nI i) hr = (if wrD (f 0) then lt (hR hr4 (B + 187) 23) fun r19 => (bd (pX13_at g hr4 (B + 187) (nI ik) 1) fun x20 => (nn r19 fun a19 => (tg g a19 20 (ix (gL g a19) ((16 * x20) + nI i) (lt (sI hr4 a19 (Int32.toNatClampNeg ((16 * x20) + nI i)) (nI (tk2 F f i (tkS F i) k) + (pX13_latencyOf (pX13_unitOf (nI (f 0)))))) fun h24 => (lt (hR h24 (B + 187) 23) fun r25 => (bd (pX13_at g h24 (B + 187) (nI ik) 1) fun x26 => (nn r25 fun a25 => (tg g a25 20 (ix (gL g a25) ((16 * x26) + nI i) (bd (pX13_lasts g h24 (B + 187) (hI h24 a25 (Int32.toNatClampNeg ((16 * x26) + nI i)))) fun h30 => (pX13_elements_b131 g (B + 187) (nI ik) (nI t) (pX13_elements_l18 g (B + 187) (nI ik) (nI t) fu') (nI (f 0)) (nI (tk2 F f i (tkS F i) k)) (nI i) h30)))))))))))) else pX13_elements_b131 g (B + 187) (nI ik) (nI t) (pX13_elements_l18 g (B + 187) (nI ik) (nI t) fu') (nI (f 0)) (nI (tk2 F f i (tkS F i) k)) (nI i) hr4) := by
      rw [pX13_elements_l18, pX13_elements_b18, w_lt, pr_187_19 p2, w_nn, w_tg (st_192 S), sl_192 S, show (0 : Int32) = nI 0 from rfl, w_ix (show 0 < 1476 by decide) (by decide), nI_clamp (show 0 < 2 ^ 31 by decide), v0, if_neg (nI_ge hin (by omega)), c5, w_bd2, if_pos (show (0 : Int32) = nI 0 from rfl), d1, w_bd2, d2, w_bd, d3, w_bd, f2, w_bd]
      simp only [show nI 0 = (0 : Int32) from rfl, m4, ite_not]
    by_cases cw : wrD (f 0)
    · have hc : 16 * f 1 + i < 96 := by omega
      obtain ⟨w1, w2⟩ := r_ready S Ce cw hf hF (by omega) sT
      have l2 := tk2_le (f := f) (i := i) (k := k) hF sT
      have a1 : pX13_at g hr4 (B + 187) (nI ik) 1 = some (nI (f 1)) := (im_at S Xd.2.1 hk Xd.2.2.2.2.1).2.1
      generalize hW : tk2 F f i (tkS F i) k = W at *
      have fr1 : RFr B hr4 (sI hr4 (B + 194) (16 * f 1 + i) (nI (W + laN (f 0)))) := (RFr.rf B hr4).a (by decide) (by decide)
      have fr2 : RFr B hr4 (sI (sI hr4 (B + 194) (16 * f 1 + i) (nI (W + laN (f 0)))) (B + 187) 34 (nI (max (max (F 0 0) W) (W + laN (f 0))))) := fr1.o (by decide)
      have X1 := Xd.r fr1
      have a1' : pX13_at g (sI hr4 (B + 194) (16 * f 1 + i) (nI (W + laN (f 0)))) (B + 187) (nI ik) 1 = some (nI (f 1)) := (im_at S X1.2.1 hk X1.2.2.2.2.1).2.1
      have X2 := Xd.r fr2
      refine ⟨hd, _, k, pk', cls.trans (by rfl), ?_, X2, by rw [hW]; exact Cd, w2, ⟨f6, f7, f8, by rw [fr2.2.2.1 42 (by decide) (by decide)]; exact f9⟩, nf, d5.m.tr (f5.m.tr fr2.m), tt⟩
      rw [ref, if_pos cw, w_lt, pr_187_23 Xd.2.1, a1, w_bd, w_nn, w_tg (st_194 S), sl_194 S, r_cell, w_ix hc (by decide), nI_clamp (by omega), m9, if_pos he, m10 he, nI_add, w_lt, w_lt, hR_sI, pr_187_23 Xd.2.1, a1', w_bd, w_nn, w_tg (st_194 S), sl_194 S, r_cell, w_ix hc (by decide), nI_clamp (by omega), hI_s, w1, w_bd]
      unfold pX13_elements_b131
      rw [w_lt, nI_1, hW]
    · refine ⟨hd, hr4, k, pk', cls, ?_, Xd, Cd, Ce.to (fun a j q => tkG_F cw a j q) (fun _ _ => rfl), ⟨f6, f7, f8, f9⟩, nf, d5.m.tr f5.m, tt⟩
      rw [ref, if_neg cw]
      unfold pX13_elements_b131
      rw [w_lt, nI_1]
  · right
    have Xa := XX.x S Q c2
    have Ca : TC z ha F G := C.rw fun w w1 w2 => c2.zz Q w1 w2
    refine ⟨ha, hr, c, hc, ?_, ?_, Xa, Ca, Ct, (c2.c Q).nf, MFr.rf B hr⟩
    · rw [pX9_doElements_l35, c1]
    · rw [pX13_elements_l18, pX13_elements_b18, w_lt, pr_187_19 p2, w_nn, w_tg (st_192 S), sl_192 S, show (0 : Int32) = nI 0 from rfl, w_ix (show 0 < 1476 by decide) (by decide), nI_clamp (show 0 < 2 ^ 31 by decide), v0, if_neg (nI_ge hin (by omega)), c3, w_bd2, if_neg (by decide)]
end ELS
