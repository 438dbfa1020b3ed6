/-! what an element does, in both -/
section ELB
variable {B b L : Nat} {E : EC} {xs : Nat → Int32} {op st bt : Nat → Nat} {aL aS aO : Nat} {g : MT} {h h' h1 h2 hr hr' : CT} {q z p : Nat} {f : Nat → Nat}
/-- a field of the machine that is a number, its MASK, is written in both -/
theorem dm_mask (Q : QZ B q z) (D : DM B q h hr) {n : Nat} (hn : n < 65536) : DM B q (sI h q 4 (nI n)) (sI hr (B + 192) 3 (nI n)) := by
  obtain ⟨h1, h2, h3, h4, h5, h6, h7, h8, h9⟩ := D
  have e0 : ∀ j, j ≠ 4 → hI (sI h q 4 (nI n)) q j = hI h q j := fun j hj => by rw [hI_sI, if_pos rfl, ud_n hj]
  have e1 : ∀ j, 0 < j → hI (sI h q 4 (nI n)) (q + j) = hI h (q + j) := fun j hj => by rw [hI_sI, if_neg (by omega)]
  have e2 : ∀ j, j ≠ 3 → hI (sI hr (B + 192) 3 (nI n)) (B + 192) j = hI hr (B + 192) j := fun j hj => by rw [hI_sI, if_pos rfl, ud_n hj]
  refine ⟨by rw [e0 5 (by decide), e2 0 (by decide)]; exact h1, by rw [e0 6 (by decide), e2 _ (by decide)]; exact h2, by rw [e0 7 (by decide), e2 _ (by decide)]; exact h3, ⟨n, hn, by rw [hI_sI, if_pos rfl, ud_s], by rw [hI_sI, if_pos rfl]; exact ud_s _ _ _⟩, by rw [e1 20 (by decide)]; exact h5, by rw [e1 20 (by decide), e2 _ (by decide)]; exact h6, fun r hr => ?_, ?_, ?_⟩
  · rw [hI_sI, if_neg (by omega), hD_sI, hD_sI]; exact h7 r hr
  · rw [hI_sI, if_neg (by omega), hD_sI, hD_sI]; exact h8
  · rw [hI_sI, if_neg (by omega), hD_sI, hD_sI]; exact h9
theorem dm_vl (Q : QZ B q z) (D : DM B q h hr) {n : Nat} (hn : n ≤ 16) : DM B q (sI h q 5 (nI n)) (sI hr (B + 192) 0 (nI n)) := by
  obtain ⟨h1, h2, h3, h4, h5, h6, h7, h8, h9⟩ := D
  have e0 : ∀ j, j ≠ 5 → hI (sI h q 5 (nI n)) q j = hI h q j := fun j hj => by rw [hI_sI, if_pos rfl, ud_n hj]
  have e1 : ∀ j, 0 < j → hI (sI h q 5 (nI n)) (q + j) = hI h (q + j) := fun j hj => by rw [hI_sI, if_neg (by omega)]
  have e2 : ∀ j, j ≠ 0 → hI (sI hr (B + 192) 0 (nI n)) (B + 192) j = hI hr (B + 192) j := fun j hj => by rw [hI_sI, if_pos rfl, ud_n hj]
  refine ⟨⟨n, hn, by rw [hI_sI, if_pos rfl, ud_s], by rw [hI_sI, if_pos rfl, ud_s]⟩, by rw [e0 6 (by decide), e2 _ (by decide)]; exact h2, by rw [e0 7 (by decide), e2 _ (by decide)]; exact h3, by rw [e0 4 (by decide), e2 _ (by decide)]; exact h4, by rw [e1 20 (by decide)]; exact h5, by rw [e1 20 (by decide), e2 _ (by decide)]; exact h6, fun r hr => ?_, ?_, ?_⟩
  · rw [hI_sI, if_neg (by omega), hD_sI, hD_sI]; exact h7 r hr
  · rw [hI_sI, if_neg (by omega), hD_sI, hD_sI]; exact h8
  · rw [hI_sI, if_neg (by omega), hD_sI, hD_sI]; exact h9
theorem dm_mk (D : DM B q h hr) : ∃ m, m < 65536 ∧ hI h q 4 = nI m ∧ hI hr (B + 192) 3 = nI m := by
  obtain ⟨m, m1, m2, m3⟩ := D.2.2.2.1
  rw [Nat.zero_add] at m3
  exact ⟨m, m1, m2, m3⟩
/-- a MASK's bit -/
theorem bit_both (S : Sh B g) (p2 : PtR B (hR hr)) (Q : QZ B q z) (M3 : gT g q = 3) (D : DM B q h hr) {i ik : Nat} (hi : i < 16) {c : Int32} (hc : is01 c) : ∃ h1 hr1, pX3_setBit g h q (nI i) c = some h1 ∧ pX13_compares_b100 g (B + 187) (nI ik) (nI i) c hr = some hr1 ∧ DM B q h1 hr1 ∧ DFr q h h1 ∧ DFR B hr hr1 := by
  obtain ⟨m, m1, m2, m3⟩ := dm_mk D
  obtain ⟨⟨n0, n1, n2⟩, k0, k1, k2⟩ := mask_bit m1 hi
  have fr : ∀ n, DFr q h (sI h q 4 (nI n)) := fun n => ⟨rfl, fun y hy => (Eqa.rf h y).sI (by omega), fun j hj => by rw [hI_sI, if_pos rfl, ud_n hj]⟩
  have fr' : ∀ n, DFR B hr (sI hr (B + 192) 3 (nI n)) := fun n => ⟨rfl, fun y y1 _ => (Eqa.rf hr y).sI y1, fun i i3 _ => by rw [hI_sI, if_pos rfl, ud_n i3], fun _ _ => rfl⟩
  rcases hc with rfl | rfl
  · refine ⟨sI h q 4 (nI n0), sI hr (B + 192) 3 (nI n0), ?_, ?_, dm_mask Q D n1, fr n0, fr' n0⟩
    · unfold pX3_setBit pX3_setBit_b26
      rw [w_tg M3, if_pos rfl, w_tg M3, m2, n2, w_lt]
    · unfold pX13_compares_b100
      rw [w_lt, w_lt, pr_187_19 p2, w_nn, w_tg (st_192 S), sl_192 S, show (3 : Int32) = nI 3 from rfl, w_ix (show 3 < 1476 by decide) (by decide), if_pos rfl, w_nn, w_tg (st_192 S), sl_192 S, w_ix (show 3 < 1476 by decide) (by decide), nI_clamp (show 3 < 2 ^ 31 by decide), m3, n2, Int32.or_zero, w_lt]
  · refine ⟨sI h q 4 (nI k0), sI hr (B + 192) 3 (nI k0), ?_, ?_, dm_mask Q D k1, fr k0, fr' k0⟩
    · unfold pX3_setBit pX3_setBit_b26
      rw [w_tg M3, if_neg (by decide), w_tg M3, m2, k2, w_lt]
    · unfold pX13_compares_b100
      rw [w_lt, w_lt, pr_187_19 p2, w_nn, w_tg (st_192 S), sl_192 S, show (3 : Int32) = nI 3 from rfl, w_ix (show 3 < 1476 by decide) (by decide), if_neg (by decide), w_nn, w_tg (st_192 S), sl_192 S, w_ix (show 3 < 1476 by decide) (by decide), nI_clamp (show 3 < 2 ^ 31 by decide), m3, or_mask, k2, w_lt]
/-- what the reference does, by kinds -/
theorem r_does (S : Sh B g) (p2 : PtR B (hR hr)) {ik i : Nat} (hk : ik < 30) (M : IM B hr ik f) (hf : FOK f) : pX13_does g hr (B + 187) (nI ik) (nI i) = if wrD (f 0) then (if f 8 = 0 then pX13_does_b41 g (B + 187) (nI ik) (nI i) hr else if pX13_has (hI hr (B + 192) 3) (nI i) = 0 then some hr else pX13_does_b41 g (B + 187) (nI ik) (nI i) hr)
    else if isMm (f 0) then (bd (pX13_placeOf g hr (B + 187) (nI ik) (nI i)) fun x24 => ix 984 (nI (16 * f 1) + nI i) (ix 984 (100 + x24) (some (sD hr (B + 193) (Int32.toNatClampNeg (100 + x24)) (hD hr (B + 193) (Int32.toNatClampNeg (nI (16 * f 1) + nI i)))))))
    else if isCp (f 0) then (bd (pX13_compares g hr (B + 187) (nI ik) (nI i)) fun h21 => some h21)
    else if pX13_has (hI hr (B + 192) 3) (nI i) = 0 then some hr else ix 984 (nI (16 * f 2) + nI i) (bd (pX13_comes g hr (B + 187) (nI (f 1)) (hI hr (B + 187) 42) (hD hr (B + 193) (Int32.toNatClampNeg (nI (16 * f 2) + nI i)))) fun h18 => some (sI h18 (B + 187) 42 (hI h18 (B + 187) 42 + 1))) := by
  obtain ⟨a0, a1, a2, a3, a4, a5, a6, a7⟩ := im_at S p2 hk M
  obtain ⟨-, -, -, m4, m5, -, m7, -⟩ := kt_m (f 0) hf.1
  have e16 : ∀ x : Nat, (16 : Int32) * nI x = nI (16 * x) := fun x => by rw [show (16 : Int32) = nI 16 from rfl, pk_mul]
  have q8 : (nI (f 8) = 0) = (f 8 = 0) := propext (nI_eq (b := 0) (by have := hf.2.2.2.2.2.2.2.2.2.1; omega) (by decide))
  unfold pX13_does
  rw [w_tg (st_187 S), a0, w_bd, w_lt, pr_187_19 p2, w_nn, w_tg (st_192 S), sl_192 S, show (3 : Int32) = nI 3 from rfl, w_ix (show 3 < 1476 by decide) (by decide), nI_clamp (show 3 < 2 ^ 31 by decide), w_lt]
  simp only [m4, m5, m7, ite_not, a6, w_bd, q8, w_lt, pr_187_20 p2, a1, a2, w_nn, w_tg (st_193 S), sl_193 S, e16]
theorem el_store (K : EOK E b L xs op st bt aL aS aO) (S : Sh B g) (p2 : PtR B (hR hr)) (Q : QZ B q z) (R : RunC B q z g h) (D : DM B q h hr) (I : IC op g h p f) (hf : FOK f) {ik i : Nat} (hk : ik < 30) (M : IM B hr ik f) (hi : i < 16) (hs : f 0 = 4 ∨ f 0 = 6) {k : Nat} (hk64 : k < 64) (pl : pX13_placeOf g hr (B + 187) (nI ik) (nI i) = some (nI k)) :
    ∃ h' hr', pX9_doElement E g h (B + 132) p (nI i) (nI k) = some h' ∧ pX13_does g hr (B + 187) (nI ik) (nI i) = some hr' ∧ DM B q h' hr' ∧ CFr B q h h' ∧ QFr B hr hr' ∧ hI h' (B + 132) 10 = hI h (B + 132) 10 ∧ hI hr' (B + 187) 42 = hI hr (B + 187) 42 := by
  have hp := ic_out S I.1
  obtain ⟨r1, r2, r3, r4, r5, r6, r7⟩ := R
  have T136 := st_136 S
  have T60 := k_tag K hf.1
  have l1 := hf.2.1
  have N := dm_num D l1 hi
  have ft := mac_fetch (t := B + 136) r4 D.bits l1 hi T136
  have X : XFr B h (numW h (B + 136) (hD h (q + 3 + 3 * f 1) i) (hI h (q + 4 + 3 * f 1) i)) := (XFr.rf r7).x N.1
  have kp := row_keep (h := numW h (B + 136) (hD h (q + 3 + 3 * f 1) i) (hI h (q + 4 + 3 * f 1) i)) (p := B + 136) (word_rowq r4) T136 hk64 (by decide) (by rw [numW_i]; exact N.1)
  rw [numW_d, numW_i, show q + 24 + 1 = q + 25 from rfl, show q + 24 + 2 = q + 26 from rfl] at kp
  refine ⟨sI (sD (numW h (B + 136) (hD h (q + 3 + 3 * f 1) i) (hI h (q + 4 + 3 * f 1) i)) (q + 25) k (hD h (q + 3 + 3 * f 1) i)) (q + 26) k (hI h (q + 4 + 3 * f 1) i), sD hr (B + 193) (100 + k) (hD hr (B + 193) (16 * f 1 + i)), ?_, ?_, ?_, ⟨X.1, fun y a b c d e => (((X.2.1 y d e b).sD (by omega)).sI (by omega)), fun j hj => ?_, fun j hj => ?_, fun j hj => ?_, fun j hj => ?_, ?_⟩, ⟨rfl, fun y _ _ c => (Eqa.rf hr y).sD c, fun _ _ => rfl, rfl, fun _ _ _ => rfl, fun i hi => ?_⟩, ?_, rfl⟩
  · unfold pX9_doElement
    rw [w_tg (st_132 S), w_tg I.1, w_lt, I.2.1, w_nn, w_tg T60, d_wY K hf.1, w_bd]
    simp only [b01, ite_not]
    rw [if_pos hs, w_lt, r2, w_lt, pc_132_2 r1, w_nn, w_tg r4.1, w_nn, I.2.2 1 (by decide) (by decide), ft, w_bd, w_lt, numW_R, r2, w_nn, w_tg r4.1, w_lt, r4.2.2.2.2.2.2.2.2.2.2.1, w_lt, pc_132_2 r1, w_nn, w_tg (word_rowq r4).1, w_nn, kp, w_bd]
  · rw [r_does S p2 hk M hf, if_neg (show ¬ wrD (f 0) by omega), if_pos (show isMm (f 0) by omega), pl, w_bd, nI_add, show (100 : Int32) + nI k = nI (100 + k) from nI_add 100 k, w_ix (show 16 * f 1 + i < 984 by omega) (by decide), w_ix (show 100 + k < 984 by omega) (by decide), nI_clamp (by omega), nI_clamp (by omega)]
  · refine MacD.mem (a := k) (w := hD h (q + 3 + 3 * f 1) i) (p := hI h (q + 4 + 3 * f 1) i) (y := hD hr (B + 193) (16 * f 1 + i)) (vv := hD hr (B + 193)) (hc := h) D hk64 N (fun j hj => ⟨?_, ?_⟩) ?_ ?_ (fun i => ?_)
    · rw [hI_sI, if_neg (by omega), hI_sD, numW_I _ _ _ _ (by omega)]
    · rw [hD_sI, hD_sD, if_neg (by omega), numW_D _ _ _ _ (by omega)]
    · rw [hD_sI, hD_sD, if_pos rfl, numW_D _ _ _ _ (by omega)]
    · rw [hI_sI, if_pos rfl, hI_sD, numW_I _ _ _ _ (by omega)]
    · rw [hD_sD, if_pos rfl, show 0 + 100 + k = 100 + k by omega]; rfl
  · rw [hI_sI, if_neg (by omega), hI_sD, numW_I _ _ _ _ (by omega)]
  · rw [hI_sI, if_neg (by omega), hI_sD, numW_I _ _ _ _ (by omega)]
  · rw [hI_sI, if_neg (by omega), hI_sD, numW_I _ _ _ _ (by omega)]
  · rfl
  · exact ⟨by rw [hI_sI, if_neg (by omega), hI_sD]; exact X.2.2.2.2.1, by rw [hI_sI, if_neg (by omega), hI_sD]; exact X.2.2.2.2.2⟩
  · rw [hD_sD, if_pos rfl, ud_n (by omega)]
  · rw [hI_sI, if_neg (by omega), hI_sD, numW_I _ _ _ _ (by omega)]
theorem el_cmp (K : EOK E b L xs op st bt aL aS aO) (S : Sh B g) (p2 : PtR B (hR hr)) (Q : QZ B q z) (R : RunC B q z g h) (D : DM B q h hr) (I : IC op g h p f) (hf : FOK f) {ik i : Nat} (hk : ik < 30) (M : IM B hr ik f) (hi : i < 16) (hs : isCp (f 0)) (pl : Int32) :
    ∃ h' hr', pX9_doElement E g h (B + 132) p (nI i) pl = some h' ∧ pX13_does g hr (B + 187) (nI ik) (nI i) = some hr' ∧ DM B q h' hr' ∧ CFr B q h h' ∧ QFr B hr hr' ∧ hI h' (B + 132) 10 = hI h (B + 132) 10 ∧ hI hr' (B + 187) 42 = hI hr (B + 187) 42 := by
  have hp := ic_out S I.1
  have RR := R
  obtain ⟨r1, r2, r3, r4, r5, r6, r7⟩ := R
  have T136 := st_136 S
  have T137 := st_137 S
  have T60 := k_tag K hf.1
  have l1 := hf.2.1
  have l2 := hf.2.2.1
  have e24 : E.1 24 = .ref (op 19) := e_st K 19 (by decide)
  have e22 : E.1 22 = .ref (op 17) := e_st K 17 (by decide)
  have N := dm_num D l1 hi
  have ft := mac_fetch (t := B + 136) r4 D.bits l1 hi T136
  have X : XFr B h (numW h (B + 136) (hD h (q + 3 + 3 * f 1) i) (hI h (q + 4 + 3 * f 1) i)) := (XFr.rf r7).x N.1
  have I1 := X.ic I hp
  have R1 := X.run RR
  have D1 := X.dm Q D
  have N2 := dm_num D1 l2 hi
  have ft2 := mac_fetch (t := B + 137) R1.2.2.2.1 D1.bits l2 hi T137
  have hf28 : f 0 < 28 := Nat.lt_of_lt_of_le hf.1 (by decide)
  obtain ⟨a0, a1, a2, a3, a4, a5, a6, a7⟩ := im_at S p2 hk M
  have q17 : (nI (f 0) = 17) = (f 0 = 17) := q_k (j := 17) hf.1 (by decide)
  have q18 : (nI (f 0) = 18) = (f 0 = 18) := q_k (j := 18) hf.1 (by decide)
  -- the answer
  have ans : ∃ c h1, pX9_holds E g h (B + 132) p (nI i) = some (c, h1) ∧ is01 c ∧ XFr B h h1 ∧ pX13_compares g hr (B + 187) (nI ik) (nI i) = pX13_compares_b100 g (B + 187) (nI ik) (nI i) c hr := by
    have cr : pX13_compares g hr (B + 187) (nI ik) (nI i) = (if f 0 = 17 then (if 0 ≤ Op.cmpValue (FP.dcmp (hD hr (B + 193) (16 * f 1 + i)) (hD hr (B + 193) (16 * f 2 + i))) .g then pX13_compares_b100 g (B + 187) (nI ik) (nI i) 0 hr else pX13_compares_b100 g (B + 187) (nI ik) (nI i) 1 hr) else if f 0 = 18 then (if Op.cmpValue (FP.dcmp (hD hr (B + 193) (16 * f 1 + i)) (hD hr (B + 193) (16 * f 2 + i))) .l = 0 then pX13_compares_b100 g (B + 187) (nI ik) (nI i) 1 hr else pX13_compares_b100 g (B + 187) (nI ik) (nI i) 0 hr) else if Op.cmpValue (FP.dcmp (hD hr (B + 193) (16 * f 1 + i)) (hD hr (B + 193) (16 * f 1 + i))) .l = 0 then pX13_compares_b100 g (B + 187) (nI ik) (nI i) 0 hr else pX13_compares_b100 g (B + 187) (nI ik) (nI i) 1 hr) := by
      unfold pX13_compares
      rw [w_tg (st_187 S), a0, w_bd, w_lt, pr_187_20 p2, a1, w_bd, w_nn, w_tg (st_193 S), sl_193 S, r_cell, w_ix (show 16 * f 1 + i < 984 by omega) (by decide), w_lt, w_lt, a2, w_bd, w_nn, w_tg (st_193 S), sl_193 S, r_cell, w_ix (show 16 * f 2 + i < 984 by omega) (by decide), w_lt, nI_clamp (by omega), nI_clamp (by omega)]
      simp only [q17, q18]
    rw [cr]
    have hd : ∀ X, pX9_holds E g h (B + 132) p (nI i) = X ↔ (if f 0 = 19 then (some (hI h (q + 4 + 3 * f 1) i, numW h (B + 136) (hD h (q + 3 + 3 * f 1) i) (hI h (q + 4 + 3 * f 1) i)) : Option (Int32 × CT)) else (pX9_holds E g h (B + 132) p (nI i))) = X := fun X => by
      by_cases c : f 0 = 19
      · rw [if_pos c]
        have : pX9_holds E g h (B + 132) p (nI i) = some (hI h (q + 4 + 3 * f 1) i, numW h (B + 136) (hD h (q + 3 + 3 * f 1) i) (hI h (q + 4 + 3 * f 1) i)) := by
          unfold pX9_holds
          rw [w_tg (st_132 S), w_lt, r2, w_tg I.1, w_lt, pc_132_2 r1, w_nn, w_tg r4.1, w_nn, I.2.2 1 (by decide) (by decide), ft, w_bd, w_lt, I1.2.1, e24, w_kR]
          simp only [eq_op K hf28 (show 19 < 28 by decide)]
          rw [if_pos c, w_lt, numW_R, pc_132_2 r1, w_nn, w_tg T136, numW_i, w_bz N.1]
        rw [this]
      · rw [if_neg c]
    by_cases c19 : f 0 = 19
    · refine ⟨_, _, (hd _).mpr (if_pos c19), N.1, X, ?_⟩
      rw [if_neg (by omega), if_neg (by omega), odd_val N]
      by_cases w : Op.cmpValue (FP.dcmp (hD hr (B + 193) (16 * f 1 + i)) (hD hr (B + 193) (16 * f 1 + i))) .l = 0
      · rw [if_pos w, if_pos w]
      · rw [if_neg w, if_neg w]
    · have nX : NumR (hD (numW h (B + 136) (hD h (q + 3 + 3 * f 1) i) (hI h (q + 4 + 3 * f 1) i)) (B + 136) 0) (hI (numW h (B + 136) (hD h (q + 3 + 3 * f 1) i) (hI h (q + 4 + 3 * f 1) i)) (B + 136) 1) (hD hr (B + 193) (16 * f 1 + i)) := by
        rw [numW_d, numW_i]; exact N
      clear hd
      generalize hH : numW h (B + 136) (hD h (q + 3 + 3 * f 1) i) (hI h (q + 4 + 3 * f 1) i) = hx at *
      have X2 := X.y N2.1 (v := hD hx (q + 3 + 3 * f 2) i)
      have I2 := X2.ic I hp
      have R2 := X2.run RR
      have nx : NumR (hD (numW hx (B + 137) (hD hx (q + 3 + 3 * f 2) i) (hI hx (q + 4 + 3 * f 2) i)) (B + 136) 0) (hI (numW hx (B + 137) (hD hx (q + 3 + 3 * f 2) i) (hI hx (q + 4 + 3 * f 2) i)) (B + 136) 1) (hD hr (B + 193) (16 * f 1 + i)) := by
        rw [numW_I _ _ _ _ (show B + 136 ≠ B + 137 by omega), numW_D _ _ _ _ (show B + 136 ≠ B + 137 by omega)]; exact nX
      have ny : NumR (hD (numW hx (B + 137) (hD hx (q + 3 + 3 * f 2) i) (hI hx (q + 4 + 3 * f 2) i)) (B + 137) 0) (hI (numW hx (B + 137) (hD hx (q + 3 + 3 * f 2) i) (hI hx (q + 4 + 3 * f 2) i)) (B + 137) 1) (hD hr (B + 193) (16 * f 2 + i)) := by
        rw [numW_d, numW_i]; exact N2
      have i01a : ∀ (P : Prop) [Decidable P], is01 (if P then (0 : Int32) else 1) := fun P _ => by
        split
        · exact is01_0
        · exact is01_1
      have i01b : ∀ (P : Prop) [Decidable P], is01 (if P then (1 : Int32) else 0) := fun P _ => by
        split
        · exact is01_1
        · exact is01_0
      by_cases c17 : f 0 = 17
      · refine ⟨if (0 ≤ Op.cmpValue (FP.dcmp (hD hr (B + 193) (16 * f 1 + i)) (hD hr (B + 193) (16 * f 2 + i))) .g) then 0 else 1, numW hx (B + 137) (hD hx (q + 3 + 3 * f 2) i) (hI hx (q + 4 + 3 * f 2) i), ?_, i01a _, X2, ?_⟩
        · unfold pX9_holds
          rw [w_tg (st_132 S), w_lt, r2, w_tg I.1, w_lt, pc_132_2 r1, w_nn, w_tg r4.1, w_nn, I.2.2 1 (by decide) (by decide), ft, w_bd, w_lt, I1.2.1, e24, w_kR]
          simp only [eq_op K hf28 (show 19 < 28 by decide)]
          rw [if_neg c19, w_lt, R1.2.1, w_lt, pc_132_3 R1.1, w_nn, w_tg r4.1, w_nn, I1.2.2 2 (by decide) (by decide), ft2, w_bd, w_lt, I2.2.1, e22, w_kR]
          simp only [eq_op K hf28 (show 17 < 28 by decide)]
          rw [if_pos c17, w_lt, pc_132_2 R2.1, w_lt, pc_132_3 R2.1, w_nn, w_tg T136, w_nn, n_isLess T136 T137 nx ny, w_bd, w_bz (i01a (0 ≤ Op.cmpValue (FP.dcmp (hD hr (B + 193) (16 * f 1 + i)) (hD hr (B + 193) (16 * f 2 + i))) .g))]
        · rw [if_pos c17]
          split <;> rfl
      · refine ⟨if (Op.cmpValue (FP.dcmp (hD hr (B + 193) (16 * f 1 + i)) (hD hr (B + 193) (16 * f 2 + i))) .l = 0) then 1 else 0, numW hx (B + 137) (hD hx (q + 3 + 3 * f 2) i) (hI hx (q + 4 + 3 * f 2) i), ?_, i01b _, X2, ?_⟩
        · unfold pX9_holds
          rw [w_tg (st_132 S), w_lt, r2, w_tg I.1, w_lt, pc_132_2 r1, w_nn, w_tg r4.1, w_nn, I.2.2 1 (by decide) (by decide), ft, w_bd, w_lt, I1.2.1, e24, w_kR]
          simp only [eq_op K hf28 (show 19 < 28 by decide)]
          rw [if_neg c19, w_lt, R1.2.1, w_lt, pc_132_3 R1.1, w_nn, w_tg r4.1, w_nn, I1.2.2 2 (by decide) (by decide), ft2, w_bd, w_lt, I2.2.1, e22, w_kR]
          simp only [eq_op K hf28 (show 17 < 28 by decide)]
          rw [if_neg c17, w_lt, pc_132_2 R2.1, w_lt, pc_132_3 R2.1, w_nn, w_tg T136, w_nn, n_isSame T136 T137 nx ny, w_bd, w_bz (i01b (Op.cmpValue (FP.dcmp (hD hr (B + 193) (16 * f 1 + i)) (hD hr (B + 193) (16 * f 2 + i))) .l = 0))]
        · rw [if_neg c17, if_pos (show f 0 = 18 by omega)]
          split <;> rfl
  obtain ⟨c, h1, e1, e2, X1, e3⟩ := ans
  obtain ⟨h2, hr2, b1, b2, b3, b4, b5⟩ := bit_both (ik := ik) S p2 Q r4.1 (X1.dm Q D) hi e2
  have s1 := X1.2.2.2.2
  refine ⟨h2, hr2, ?_, ?_, b3, (X1.c Q).tr (b4.c Q s1), b5.qf, ?_, ?_⟩
  · unfold pX9_doElement
    rw [w_tg (st_132 S), w_tg I.1, w_lt, I.2.1, w_nn, w_tg T60, d_wY K hf.1, w_bd]
    simp only [b01, ite_not]
    rw [if_neg (show ¬ (f 0 = 4 ∨ f 0 = 6) by omega), w_lt, w_nn, w_tg T60, d_wM K hf.1, w_bd]
    simp only [b01, ite_not]
    rw [if_pos (Or.inl hs), w_lt, r2, e1, w_bd2, w_nn, w_tg r4.1, b1, w_bd]
  · rw [r_does S p2 hk M hf, if_neg (show ¬ wrD (f 0) by omega), if_neg (show ¬ isMm (f 0) by omega), if_pos hs, e3, b2, w_bd]
  · rw [(b4.2.1 (B + 132) (by omega)).1, (X1.2.1 (B + 132) (by omega) (by omega) (by omega)).1]
  · rw [(b5.2.1 (B + 187) (by omega) (by omega)).1]
end ELB
