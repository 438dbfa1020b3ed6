/-! what an element does, in both: rows are written, packed; all kinds -/
section ELC
variable {B b L : Nat} {E : EC} {xs : Nat → Int32} {op st bt : Nat → Nat} {aL aS aO : Nat} {g : MT} {h h' h1 h2 hr hr' : CT} {q z p : Nat} {f : Nat → Nat}
theorem el_write (K : EOK E b L xs op st bt aL aS aO) (S : Sh B g) (p2 : PtR B (hR hr)) (Q : QZ B q z) (R : RunC B q z g h) (D : DM B q h hr) (I : IC op g h p f) (hf : FOK f) {ik i : Nat} (hk : ik < 30) (M : IM B hr ik f) (hi : i < 16) (hs : wrD (f 0)) {pl : Int32} (hpl : isMm (f 0) → ∃ k, pl = nI k ∧ k < 64 ∧ pX13_placeOf g hr (B + 187) (nI ik) (nI i) = some (nI k)) :
    ∃ h' hr', pX9_doElement E g h (B + 132) p (nI i) pl = some h' ∧ pX13_does g hr (B + 187) (nI ik) (nI i) = some hr' ∧ DM B q h' hr' ∧ CFr B q h h' ∧ QFr B hr hr' ∧ hI h' (B + 132) 10 = hI h (B + 132) 10 ∧ hI hr' (B + 187) 42 = hI hr (B + 187) 42 := by
  have hp := ic_out S I.1
  have T136 := st_136 S
  have T60 := k_tag K hf.1
  have l1 := hf.2.1
  have e26 : E.1 26 = .ref (op 21) := e_st K 21 (by decide)
  have hf28 : f 0 < 28 := Nat.lt_of_lt_of_le hf.1 (by decide)
  obtain ⟨h1, x, c1, c2, c3, X⟩ := reckon_both K S p2 Q R D I hf hs hk M hi hpl
  clear hpl
  have I1 := X.ic I hp
  have R1 := X.run R
  have D1 := X.dm Q D
  obtain ⟨a0, a1, a2, a3, a4, a5, a6, a7⟩ := im_at S p2 hk M
  obtain ⟨m, m1, m2, m3⟩ := dm_mk D1
  have e8 := I1.2.2 8 (by decide) (by decide)
  have q8 : (nI (f 8) = 0) = (f 8 = 0) := propext (nI_eq (b := 0) (by have := hf.2.2.2.2.2.2.2.2.2.1; omega) (by decide))
  have el : pX9_doElement E g h (B + 132) p (nI i) pl = if f 8 = 0 then pX9_doElement_b120 E g (B + 132) p (nI i) pl h1 else if pX13_has (nI m) (nI i) = 0 then some h1 else pX9_doElement_b120 E g (B + 132) p (nI i) pl h1 := by
    unfold pX9_doElement
    rw [w_tg (st_132 S), w_tg I.1, w_lt, I.2.1, w_nn, w_tg T60, d_wY K hf.1, w_bd]
    simp only [b01, ite_not]
    rw [if_neg (show ¬ (f 0 = 4 ∨ f 0 = 6) by omega), w_lt, w_nn, w_tg T60, d_wM K hf.1, w_bd]
    simp only [b01, ite_not]
    rw [if_neg (show ¬ (isCp (f 0) ∨ f 0 = 20) by omega), w_lt, e26, w_kR]
    simp only [eq_op K hf28 (show 21 < 28 by decide)]
    rw [if_neg (show ¬ f 0 = 21 by omega), c1, w_bd, e8]
    simp only [q8]
    rw [w_lt, R1.2.1, w_nn, w_tg R1.2.2.2.1.1, mac_bit R1.2.2.2.1.1, w_bd, m2]
  rw [el, r_does S p2 hk M hf, if_pos hs, m3]
  -- it lands
  have ld : ∃ h' hr', pX9_doElement_b120 E g (B + 132) p (nI i) pl h1 = some h' ∧ pX13_does_b41 g (B + 187) (nI ik) (nI i) hr = some hr' ∧ DM B q h' hr' ∧ CFr B q h h' ∧ QFr B hr hr' ∧ hI h' (B + 132) 10 = hI h (B + 132) 10 ∧ hI hr' (B + 187) 42 = hI hr (B + 187) 42 := by
    obtain ⟨h2, hr2, d1, d2, d3, d4, d5, d6⟩ := land_mac (t := B + 136) S p2 R1.2.2.2.1 D1 l1 hi c3 (by omega) T136 rfl rfl
    refine ⟨h2, hr2, ?_, ?_, d3, (X.c Q).tr (d4.c Q X.2.2.2.2), d5.qf, ?_, ?_⟩
    · unfold pX9_doElement_b120
      rw [w_lt, R1.2.1, w_tg I1.1, w_lt, pc_132_2 R1.1, w_nn, w_tg R1.2.2.2.1.1, w_nn, I1.2.2 1 (by decide) (by decide), d1, w_bd]
    · unfold pX13_does_b41
      rw [a1, w_bd, c2, w_bd, d2, w_bd]
    · rw [(d4.2.1 (B + 132) (by omega)).1, (X.2.1 (B + 132) (by omega) (by omega) (by omega)).1]
    · rw [(d5.2.1 (B + 187) (by omega) (by omega)).1]
  by_cases c8 : f 8 = 0
  · rw [if_pos c8, if_pos c8]; exact ld
  · rw [if_neg c8, if_neg c8]
    by_cases cm : pX13_has (nI m) (nI i) = 0
    · rw [if_pos cm, if_pos cm]
      exact ⟨h1, hr, rfl, rfl, D1, X.c Q, QFr.rf B hr, by rw [(X.2.1 (B + 132) (by omega) (by omega) (by omega)).1], rfl⟩
    · rw [if_neg cm, if_neg cm]; exact ld
theorem el_pack (K : EOK E b L xs op st bt aL aS aO) (S : Sh B g) (p2 : PtR B (hR hr)) (Q : QZ B q z) (R : RunC B q z g h) (D : DM B q h hr) (I : IC op g h p f) (hf : FOK f) {ik i pk : Nat} (hk : ik < 30) (M : IM B hr ik f) (hi : i < 16) (hs : f 0 = 21) (pl : Int32) (k1 : hI h (B + 132) 10 = nI pk) (k2 : hI hr (B + 187) 42 = nI pk) (hpk : pk ≤ i) :
    ∃ h' hr', pX9_doElement E g h (B + 132) p (nI i) pl = some h' ∧ pX13_does g hr (B + 187) (nI ik) (nI i) = some hr' ∧ DM B q h' hr' ∧ CFr B q h h' ∧ QFr B hr hr' ∧ ∃ pk', pk' ≤ i + 1 ∧ hI h' (B + 132) 10 = nI pk' ∧ hI hr' (B + 187) 42 = nI pk' := by
  have hp := ic_out S I.1
  have T136 := st_136 S
  have T60 := k_tag K hf.1
  have l1 := hf.2.1
  have l2 := hf.2.2.1
  have e26 : E.1 26 = .ref (op 21) := e_st K 21 (by decide)
  have hf28 : f 0 < 28 := Nat.lt_of_lt_of_le hf.1 (by decide)
  have RR := R
  obtain ⟨r1, r2, r3, r4, r5, r6, r7⟩ := R
  obtain ⟨m, m1, m2, m3⟩ := dm_mk D
  have N := dm_num D l2 hi
  have ft := mac_fetch (t := B + 136) r4 D.bits l2 hi T136
  have X : XFr B h (numW h (B + 136) (hD h (q + 3 + 3 * f 2) i) (hI h (q + 4 + 3 * f 2) i)) := (XFr.rf r7).x N.1
  have nX : NumR (hD (numW h (B + 136) (hD h (q + 3 + 3 * f 2) i) (hI h (q + 4 + 3 * f 2) i)) (B + 136) 0) (hI (numW h (B + 136) (hD h (q + 3 + 3 * f 2) i) (hI h (q + 4 + 3 * f 2) i)) (B + 136) 1) (hD hr (B + 193) (16 * f 2 + i)) := by
    rw [numW_d, numW_i]; exact N
  have el : pX9_doElement E g h (B + 132) p (nI i) pl = bd (pX9_packElement g h (B + 132) p (nI i)) fun h23 => some h23 := by
    unfold pX9_doElement
    rw [w_tg (st_132 S), w_tg I.1, w_lt, I.2.1, w_nn, w_tg T60, d_wY K hf.1, w_bd]
    simp only [b01, ite_not]
    rw [if_neg (show ¬ (f 0 = 4 ∨ f 0 = 6) by omega), w_lt, w_nn, w_tg T60, d_wM K hf.1, w_bd]
    simp only [b01, ite_not]
    rw [if_neg (show ¬ (isCp (f 0) ∨ f 0 = 20) by omega), w_lt, e26, w_kR]
    simp only [eq_op K hf28 (show 21 < 28 by decide)]
    rw [if_pos hs]
  rw [el, r_does S p2 hk M hf, if_neg (show ¬ wrD (f 0) by omega), if_neg (show ¬ isMm (f 0) by omega), if_neg (show ¬ isCp (f 0) by omega), m3]
  unfold pX9_packElement
  rw [w_tg (st_132 S), w_lt, r2, w_nn, w_tg r4.1, mac_bit r4.1, w_bd, m2]
  by_cases cm : pX13_has (nI m) (nI i) = 0
  · rw [if_pos cm, if_pos cm, w_bd]
    exact ⟨h, hr, rfl, rfl, D, (XFr.rf r7).c Q, QFr.rf B hr, pk, by omega, k1, k2⟩
  · rw [if_neg cm, if_neg cm, w_lt, w_tg I.1, w_lt, pc_132_2 r1, w_nn, w_tg r4.1, w_nn, I.2.2 2 (by decide) (by decide), ft, w_bd, nI_add, w_ix (show 16 * f 2 + i < 984 by omega) (by decide), nI_clamp (by omega), k2]
    have I1 := X.ic I hp
    have R1 := X.run RR
    have D1 := X.dm Q D
    have e10 : hI (numW h (B + 136) (hD h (q + 3 + 3 * f 2) i) (hI h (q + 4 + 3 * f 2) i)) (B + 132) 10 = nI pk := by
      rw [numW_I _ _ _ _ (by omega)]; exact k1
    generalize numW h (B + 136) (hD h (q + 3 + 3 * f 2) i) (hI h (q + 4 + 3 * f 2) i) = hx at *
    obtain ⟨h2, hr2, d1, d2, d3, d4, d5, d6⟩ := land_mac (t := B + 136) (j := pk) S p2 R1.2.2.2.1 D1 l1 (by omega) nX (by omega) T136 rfl rfl
    have eh : hI h2 (B + 132) 10 = nI pk := by rw [(d4.2.1 (B + 132) (by omega)).1]; exact e10
    have er : hI hr2 (B + 187) 42 = nI pk := by rw [(d5.2.1 (B + 187) (by omega) (by omega)).1]; exact k2
    rw [w_lt, R1.2.1, w_lt, pc_132_2 R1.1, w_nn, w_tg R1.2.2.2.1.1, w_nn, I1.2.2 1 (by decide) (by decide), e10, d1, w_bd, w_lt, w_bd, d2, w_bd, eh, er, nI_1]
    have C2 : CFr B q h h2 := (X.c Q).tr (d4.c Q X.2.2.2.2)
    refine ⟨_, _, rfl, rfl, ?_, ⟨C2.1, fun y a b c d e => (C2.2.1 y a b c d e).sI c, fun j hj => ?_, fun j hj => ?_, fun j hj => ?_, C2.2.2.2.2.2.1, ?_, ?_⟩, ⟨d5.1, fun y a b c => (d5.2.1 y b c).sI a, fun k hk => ?_, (d5.2.1 (B + 187) (by omega) (by omega)).2.1, fun i i3 i4 => ?_, d5.2.2.2⟩, pk + 1, by omega, hI_s _ _ _ _, hI_s _ _ _ _⟩
    · exact MacD.keep2 (hc := h2) (cc := hI hr2 (B + 192)) (vv := hD hr2 (B + 193)) (fun j hj => ⟨by rw [hI_sI, if_neg (by omega)], rfl⟩) (fun j _ _ => by rw [hI_sI, if_neg (by omega)]) (fun j _ _ => rfl) d3
    · rw [hI_sI, if_neg (by omega)]; exact C2.2.2.1 j hj
    · rw [hI_sI, if_pos rfl, ud_n hj]; exact C2.2.2.2.1 j hj
    · rw [hI_sI, if_neg (by omega)]; exact C2.2.2.2.2.1 j hj
    · rw [hI_sI, if_neg (by omega)]; exact C2.2.2.2.2.2.2.1
    · rw [hI_sI, if_neg (by omega)]; exact C2.2.2.2.2.2.2.2
    · rw [hI_sI, if_pos rfl, ud_n hk, (d5.2.1 (B + 187) (by omega) (by omega)).1]
    · rw [hI_sI, if_neg (by omega)]; exact d5.2.2.1 i i3 i4
theorem el_both (K : EOK E b L xs op st bt aL aS aO) (S : Sh B g) (p2 : PtR B (hR hr)) (Q : QZ B q z) (R : RunC B q z g h) (D : DM B q h hr) (I : IC op g h p f) (hf : FOK f) (he : isEl (f 0)) {ik i pk : Nat} (hk : ik < 30) (M : IM B hr ik f) (hi : i < 16) {pl : Int32} (hpl : isMm (f 0) → ∃ k, pl = nI k ∧ k < 64 ∧ pX13_placeOf g hr (B + 187) (nI ik) (nI i) = some (nI k)) (k1 : hI h (B + 132) 10 = nI pk) (k2 : hI hr (B + 187) 42 = nI pk) (hpk : pk ≤ i) :
    ∃ h' hr', pX9_doElement E g h (B + 132) p (nI i) pl = some h' ∧ pX13_does g hr (B + 187) (nI ik) (nI i) = some hr' ∧ DM B q h' hr' ∧ CFr B q h h' ∧ QFr B hr hr' ∧ ∃ pk', pk' ≤ i + 1 ∧ (pk' = pk ∨ f 0 = 21) ∧ hI h' (B + 132) 10 = nI pk' ∧ hI hr' (B + 187) 42 = nI pk' := by
  by_cases c1 : wrD (f 0)
  · obtain ⟨h', hr', a1, a2, a3, a4, a5, a6, a7⟩ := el_write K S p2 Q R D I hf hk M hi c1 hpl
    clear hpl
    exact ⟨h', hr', a1, a2, a3, a4, a5, pk, by omega, Or.inl rfl, by rw [a6]; exact k1, by rw [a7]; exact k2⟩
  · by_cases c2 : f 0 = 4 ∨ f 0 = 6
    · have hm : isMm (f 0) := by
        rcases c2 with c | c <;> rw [c] <;> decide
      obtain ⟨k, e1, e2, e3⟩ := hpl hm
      rw [e1]
      obtain ⟨h', hr', a1, a2, a3, a4, a5, a6, a7⟩ := el_store K S p2 Q R D I hf hk M hi c2 e2 e3
      clear hpl
      exact ⟨h', hr', a1, a2, a3, a4, a5, pk, by omega, Or.inl rfl, by rw [a6]; exact k1, by rw [a7]; exact k2⟩
    · clear hpl
      by_cases c3 : isCp (f 0)
      · obtain ⟨h', hr', a1, a2, a3, a4, a5, a6, a7⟩ := el_cmp K S p2 Q R D I hf hk M hi c3 pl
        exact ⟨h', hr', a1, a2, a3, a4, a5, pk, by omega, Or.inl rfl, by rw [a6]; exact k1, by rw [a7]; exact k2⟩
      · have c4 : f 0 = 21 := by omega
        obtain ⟨h', hr', a1, a2, a3, a4, a5, pk', a6, a7, a8⟩ := el_pack K S p2 Q R D I hf hk M hi c4 pl k1 k2 hpk
        exact ⟨h', hr', a1, a2, a3, a4, a5, pk', a6, Or.inr c4, a7, a8⟩
end ELC
