/-! what a run does to the machine: rows, MASK, in both -/
section DAT
variable {B q : Nat} {g : MT} {hc hr hc' hr' h h' h1 : CT}
abbrev DM (B q : Nat) (hc hr : CT) : Prop := MacD hc q (hI hr (B + 192)) (hD hr (B + 193)) 0 0
/-- nothing but the machine's rows, and its MASK, was written -/
def DFr (q : Nat) (h h' : CT) : Prop := hR h' = hR h ∧ (∀ y, (y < q ∨ q + 26 < y) → Eqa h h' y) ∧ ∀ j, j ≠ 4 → hI h' q j = hI h q j
def DFR (B : Nat) (h h' : CT) : Prop := hR h' = hR h ∧ (∀ y, y ≠ B + 192 → y ≠ B + 193 → Eqa h h' y) ∧ (∀ i, i ≠ 3 → i ≠ 4 → hI h' (B + 192) i = hI h (B + 192) i) ∧ ∀ i, 164 ≤ i → hD h' (B + 193) i = hD h (B + 193) i
theorem DFr.rf (q : Nat) (h : CT) : DFr q h h := ⟨rfl, fun y _ => Eqa.rf h y, fun _ _ => rfl⟩
theorem DFR.rf (B : Nat) (h : CT) : DFR B h h := ⟨rfl, fun y _ _ => Eqa.rf h y, fun _ _ _ => rfl, fun _ _ => rfl⟩
theorem DFr.tr {h h1 h2 : CT} (x : DFr q h h1) (y : DFr q h1 h2) : DFr q h h2 := ⟨y.1.trans x.1, fun w hw => (x.2.1 w hw).tr (y.2.1 w hw), fun j hj => (y.2.2 j hj).trans (x.2.2 j hj)⟩
theorem DFR.tr {h h1 h2 : CT} (x : DFR B h h1) (y : DFR B h1 h2) : DFR B h h2 := ⟨y.1.trans x.1, fun w a b => (x.2.1 w a b).tr (y.2.1 w a b), fun i a b => (y.2.2.1 i a b).trans (x.2.2.1 i a b), fun i a => (y.2.2.2 i a).trans (x.2.2.2 i a)⟩
theorem dm_has (D : DM B q hc hr) {r : Nat} (hr6 : r < 6) : pX13_has (hI hr (B + 192) 4) (nI r) = if hI hc (q + 20) r = 0 then 0 else 1 := by
  have e : hI hr (B + 192) (0 + 4) = rset (hI hc (q + 20)) := D.2.2.2.2.2.1
  rw [Nat.zero_add] at e
  rw [e]
  exact bits6 _ r hr6
/-- at j of the row r the number lands that stands in the class's cell t -/
theorem land_mac (S : Sh B g) (p2 : PtR B (hR hr)) (M : MachA g (hR hc) q) (D : DM B q hc hr) {r j : Nat} (hr6 : r < 6) (hj : j < 16) {v x : UInt64} {o : Int32} (N : NumR v o x) {t : Nat} (tq : t < q ∨ q + 26 < t) (Tt : gT g t = 4) (t1 : hD hc t 0 = v) (t2 : hI hc t 1 = o) :
    ∃ hc1 hr1, pX3_land g hc q (nI r) (nI j) t = some hc1 ∧ pX13_comes g hr (B + 187) (nI r) (nI j) x = some hr1 ∧ DM B q hc1 hr1 ∧ DFr q hc hc1 ∧ DFR B hr hr1 ∧ hI hc1 q = hI hc q := by
  obtain ⟨M1, M2, M3, M4, M5, M6, M7, M8, -⟩ := M
  obtain ⟨R1, R2⟩ := M5 r hr6
  have r6 : ¬ nI r < 0 ∧ nI r < 6 := ⟨nI_pos (by omega), nI_lt (b := 6) hr6 (by decide)⟩
  have hh := dm_has D hr6
  have th : (∀ r, r < 6 → is01 (hI hc (q + 20) r)) ∧ hI hr (B + 192) 4 = rset (hI hc (q + 20)) := ⟨D.2.2.2.2.1, D.2.2.2.2.2.1⟩
  have rows := D.2.2.2.2.2.2.1 r hr6
  have ec : (16 : Int32) * nI r + nI j = nI (16 * r + j) := r_cell
  -- both, the row being there
  have key : ∃ hc0 hr1, (pX3_land g hc q (nI r) (nI j) t = pX3_land_b36 g q (nI r) (nI j) t hc0) ∧ pX13_there g hr (B + 187) (nI r) = some hr1 ∧ hR hc0 = hR hc ∧ hR hr1 = hR hr ∧ (∀ y, y ≠ q + 3 + 3 * r → y ≠ q + 4 + 3 * r → y ≠ q + 20 → Eqa hc hc0 y) ∧ (∀ y, y ≠ B + 192 → y ≠ B + 193 → Eqa hr hr1 y)
      ∧ (∀ k, k < 6 → is01 (hI hc0 (q + 20) k)) ∧ hI hr1 (B + 192) 4 = rset (hI hc0 (q + 20)) ∧ (∀ i, i ≠ 4 → hI hr1 (B + 192) i = hI hr (B + 192) i) ∧ (∀ i, (i < 16 * r ∨ 16 * r + 16 ≤ i) → hD hr1 (B + 193) i = hD hr (B + 193) i) ∧ RowR 16 (hD hc0 (q + 3 + 3 * r)) (hI hc0 (q + 4 + 3 * r)) (hD hr1 (B + 193)) (16 * r) := by
    by_cases c : hI hc (q + 20) r = 0
    · obtain ⟨h2, c1, c2, c3⟩ := row_clear (h := hc) R2 (by decide)
      obtain ⟨h3, d1, d2, d3, d4, d5⟩ := m_there_l (S := S) (hr := sI hr (B + 192) 4 (hI hr (B + 192) 4 ||| ((1 : Int32) <<< (nI r &&& 31)))) p2 hr6
      have e33 : hI h2 (q + 20) = hI hc (q + 20) := (c2.2 (q + 20) (by omega) (by omega)).1
      refine ⟨sI h2 (q + 20) r 1, h3, ?_, ?_, by rw [hR_sI, c2.1], by rw [d2.1, hR_sI], fun y y1 y2 y3 => (c2.2 y (by omega) (by omega)).sI y3, fun y y1 y2 => ((Eqa.rf hr y).sI y1).tr (d2.2 y y2), ?_, ?_, fun i hi => ?_, fun i hi => d5 i hi, fun i hi => ?_⟩
      · unfold pX3_land
        rw [w_tg M1, if_neg r6.1, if_pos r6.2]
        have p13 : ∀ h, hR h = hR hc → hR h q 1 = some (q + 20) := fun h e => by rw [e]; exact M6
        simp only [w_lt, p13 hc rfl, p13 h2 c2.1, w_nn, w_tg M7, M8, w_ix hr6 (show 6 < 2 ^ 31 by decide), nI_clamp (show r < 2 ^ 31 by omega), if_pos c, M2, w_tg M3, M4, R1, w_tg R2.1, c1, w_bd]
        rfl
      · unfold pX13_there
        simp only [w_tg (st_187 S), w_lt, pr_187_19 p2, w_nn, w_tg (st_192 S), sl_192 S]
        rw [show (4 : Int32) = nI 4 from rfl, nI_clamp (show 4 < 2 ^ 31 by decide), hh, if_pos c]
        simp only [w_ix (show 4 < 1476 by decide) (show 1476 < 2 ^ 31 by decide), if_true]
        exact d1
      · intro k hk
        rw [hI_sI, if_pos rfl, e33]
        by_cases z : k = r
        · rw [z, ud_s]; exact is01_1
        · rw [ud_n z]; exact th.1 k hk
      · rw [d3, hI_s, hI_sI, if_pos rfl, e33, rset_land hr6, th.2]
      · rw [d3, hI_sI, if_pos rfl, ud_n hi]
      · rw [d4 _ (by omega) (by omega)]
        have z := c3 i hi
        have z1 : hD h2 (q + 3 + 3 * r) i = 0 := by rw [show q + 3 + 3 * r = q + 2 + 3 * r + 1 by omega]; exact z.1
        have z2 : hI h2 (q + 4 + 3 * r) i = 0 := by rw [show q + 4 + 3 * r = q + 2 + 3 * r + 2 by omega]; exact z.2
        rw [hD_sI, hI_sI, if_neg (by omega), z1, z2]
        exact NumR_ok nn_0
    · refine ⟨hc, hr, ?_, ?_, rfl, rfl, fun y _ _ _ => Eqa.rf hc y, fun y _ _ => Eqa.rf hr y, th.1, th.2, fun i _ => rfl, fun i _ => rfl, ?_⟩
      · unfold pX3_land
        rw [w_tg M1, if_neg r6.1, if_pos r6.2]
        simp only [w_lt, M6, w_nn, w_tg M7, M8, w_ix hr6 (show 6 < 2 ^ 31 by decide), nI_clamp (show r < 2 ^ 31 by omega), if_neg c]
      · unfold pX13_there
        simp only [w_tg (st_187 S), w_lt, pr_187_19 p2, w_nn, w_tg (st_192 S), sl_192 S]
        rw [show (4 : Int32) = nI 4 from rfl, nI_clamp (show 4 < 2 ^ 31 by decide), hh, if_neg c, w_ix (show 4 < 1476 by decide) (by decide), if_neg (by decide)]
      · rw [show 16 * r = 0 + 16 * r by omega]; exact rows
  obtain ⟨hc0, hr1, k1, k2, k3, k4, k5, k6, k7, k8, k9, k10, k11⟩ := key
  have eT := k5 t (by omega) (by omega) (by omega)
  have R2' : RowA g (hR hc0) (q + 2 + 3 * r) 16 := by rw [k3]; exact R2
  have kp := row_keep (h := hc0) (p := t) R2' Tt hj (by decide) (by rw [eT.1, t2]; exact N.1)
  rw [eT.2.2.1, eT.1, t1, t2] at kp
  have fr : ∀ y, y ≠ q + 3 + 3 * r → y ≠ q + 4 + 3 * r → y ≠ q + 20 → Eqa hc (sI (sD hc0 (q + 2 + 3 * r + 1) j v) (q + 2 + 3 * r + 2) j o) y := fun y y1 y2 y3 => ((k5 y y1 y2 y3).sD (by omega)).sI (by omega)
  have hvD : ∀ i, hD (sD hr1 (B + 193) (16 * r + j) x) (B + 193) i = if i = 16 * r + j then x else hD hr1 (B + 193) i := fun i => by rw [hD_sD, if_pos rfl]; rfl
  have hvI : hI (sD hr1 (B + 193) (16 * r + j) x) = hI hr1 := rfl
  refine ⟨sI (sD hc0 (q + 2 + 3 * r + 1) j v) (q + 2 + 3 * r + 2) j o, sD hr1 (B + 193) (16 * r + j) x, ?_, ?_, ?_, ⟨k3, fun y hy => fr y (by omega) (by omega) (by omega), fun i _ => by rw [(fr q (by omega) (by omega) (by omega)).1]⟩, ⟨k4, fun y y1 y2 => (k6 y y1 y2).sD y2, fun i _ i4 => by rw [hvI]; exact k9 i i4, fun i hi => by rw [hvD, if_neg (by omega)]; exact k10 i (by omega)⟩, (fr q (by omega) (by omega) (by omega)).1⟩
  · rw [k1]
    unfold pX3_land_b36
    rw [w_lt, k3, M2, w_nn, w_tg M3, M4, w_ix hr6 (by decide), w_lt, nI_clamp (by omega), R1, w_nn, w_tg R2.1, kp, w_bd]
  · unfold pX13_comes
    rw [w_tg (st_187 S), k2, w_bd, w_lt, k4, pr_187_20 p2, w_nn, w_tg (st_193 S), sl_193 S, ec, w_ix (show 16 * r + j < 984 by omega) (by decide), nI_clamp (by omega), w_lt]
  · refine MacD.vrow (r := r) D hr6 (fun i hi i1 i2 i3 => ?_) (fun k hk => ?_) (fun i hi => by rw [hvI]; exact k9 i (by omega)) ?_ ?_ (fun i hi => by rw [hvD, if_neg (by omega)]; exact k10 i (by omega))
    · have := fr (q + i) (by omega) (by omega) (by omega)
      exact ⟨this.1, this.2.2.1⟩
    · rw [hI_sI, if_neg (by omega), hI_sD]; exact k7 k hk
    · rw [hvI, hI_sI, if_neg (by omega), hI_sD]; exact k8
    · rw [hD_sI, hD_sD, if_pos (by omega), show q + 2 + 3 * r + 1 = q + 3 + 3 * r by omega, hI_sI, if_pos (by omega), hI_sD, show q + 2 + 3 * r + 2 = q + 4 + 3 * r by omega, show 0 + 16 * r = 16 * r by omega]
      refine k11.put N fun i hi => ?_
      rw [hvD]
      by_cases z : i = j
      · rw [z, if_pos rfl, if_pos rfl]
      · rw [if_neg (by omega), if_neg z]
theorem mac_fetch (M : MachA g (hR h) q) (hb : BitsM h q) {r i t : Nat} (hr6 : r < 6) (hi : i < 16) (Tt : gT g t = 4) : pX3_fetch g h q (nI r) (nI i) t = some (numW h t (hD h (q + 3 + 3 * r) i) (hI h (q + 4 + 3 * r) i)) := by
  obtain ⟨M1, M2, M3, M4, M5, -⟩ := M
  obtain ⟨R1, R2⟩ := M5 r hr6
  have f := row_fetch (h := h) (p := t) R2 Tt hi (by decide) (by rw [show q + 2 + 3 * r + 2 = q + 4 + 3 * r by omega]; exact hb.2.1 r hr6 i hi)
  rw [show q + 2 + 3 * r + 2 = q + 4 + 3 * r by omega, show q + 2 + 3 * r + 1 = q + 3 + 3 * r by omega] at f
  unfold pX3_fetch
  rw [w_tg M1, if_neg (nI_pos (by omega)), if_neg (show ¬ 6 ≤ nI r from nI_ge (b := 6) hr6 (by decide)), w_lt, M2, w_nn, w_tg M3, M4, w_ix hr6 (by decide), w_lt, nI_clamp (by omega), R1, w_nn, w_tg R2.1, f, w_bd]
theorem dm_num (D : DM B q hc hr) {r i : Nat} (hr6 : r < 6) (hi : i < 16) : NumR (hD hc (q + 3 + 3 * r) i) (hI hc (q + 4 + 3 * r) i) (hD hr (B + 193) (16 * r + i)) := by
  have := D.2.2.2.2.2.2.1 r hr6 i hi
  rw [Nat.zero_add] at this
  exact this
theorem dm_scal (D : DM B q hc hr) {i : Nat} (hi : i < 4) : NumR (hD hc (q + 22) i) (hI hc (q + 23) i) (hD hr (B + 193) (96 + i)) := by
  have := D.2.2.2.2.2.2.2.1 i hi
  rw [Nat.zero_add] at this
  exact this
theorem dm_word (D : DM B q hc hr) {i : Nat} (hi : i < 64) : NumR (hD hc (q + 25) i) (hI hc (q + 26) i) (hD hr (B + 193) (100 + i)) := by
  have := D.2.2.2.2.2.2.2.2 i hi
  rw [Nat.zero_add] at this
  exact this
theorem mac_missing (M : MachA g (hR h) q) {r : Nat} (hr6 : r < 6) : pX3_isMissing g h q (nI r) = some (if hI h (q + 20) r = 0 then 1 else 0) := by
  obtain ⟨M1, M2, M3, M4, M5, M6, M7, M8, -⟩ := M
  unfold pX3_isMissing pX3_isMissing_b19
  rw [w_tg M1, if_neg (nI_pos (by omega)), if_neg (show ¬ 6 ≤ nI r from nI_ge (b := 6) hr6 (by decide)), w_lt, M6, w_nn, w_tg M7, M8, w_ix hr6 (by decide), nI_clamp (by omega)]
  split <;> rfl
theorem r_misses (S : Sh B g) (p2 : PtR B (hR hr)) (D : DM B q hc hr) {r : Nat} (hr6 : r < 6) : pX13_misses g hr (B + 187) (nI r) = some (if hI hc (q + 20) r = 0 then 1 else 0) := by
  unfold pX13_misses
  rw [w_tg (st_187 S), w_lt, pr_187_19 p2, w_nn, w_tg (st_192 S), sl_192 S, show (4 : Int32) = nI 4 from rfl, w_ix (show 4 < 1476 by decide) (by decide), nI_clamp (show 4 < 2 ^ 31 by decide), dm_has D hr6]
  by_cases c : hI hc (q + 20) r = 0
  · rw [if_pos c, if_pos c, if_pos rfl]
  · rw [if_neg c, if_neg c, if_neg (by decide)]
theorem and1 (x : Int32) : x &&& 1 = 0 ∨ x &&& 1 = 1 := by
  obtain ⟨j, hj, e⟩ := pk_andE x (m := 1) 1 (by decide)
  rw [e]
  rcases (by omega : j = 0 ∨ j = 1) with rfl | rfl
  · exact Or.inl rfl
  · exact Or.inr rfl
/-- bit i of the MASK, in both -/
theorem mac_bit (M : gT g q = 3) (i : Int32) : pX3_bit g h q i = some (pX13_has (hI h q 4) i) := by
  unfold pX3_bit pX13_has
  rw [w_tg M]
  rcases and1 (hI h q 4 >>> (i &&& 31)) with e | e
  · rw [if_pos e, if_neg (by rw [e]; decide)]
  · rw [if_neg (by rw [e]; decide), if_pos e]
theorem has01 (x i : Int32) : is01 (pX13_has x i) := by
  unfold pX13_has
  split
  · exact is01_1
  · exact is01_0
theorem nI_bv (x : Int32) : x = nI x.toBitVec.toNat := by
  apply Int32.toBitVec_inj.mp
  show x.toBitVec = BitVec.ofNat 32 x.toBitVec.toNat
  rw [BitVec.ofNat_toNat, BitVec.setWidth_eq]
theorem bv_nI {n : Nat} (h : n < 2 ^ 32) : (nI n).toBitVec.toNat = n := by
  show (BitVec.ofNat 32 n).toNat = n
  rw [BitVec.toNat_ofNat, Nat.mod_eq_of_lt h]
theorem or_mask (m b : Int32) : (m &&& (b ^^^ -1)) ||| b = m ||| b := by
  apply Int32.toBitVec_inj.mp
  show (m.toBitVec &&& (b.toBitVec ^^^ (-1 : Int32).toBitVec)) ||| b.toBitVec = m.toBitVec ||| b.toBitVec
  rw [show (-1 : Int32).toBitVec = BitVec.allOnes 32 from rfl]
  ext i hi
  simp only [BitVec.getElem_or, BitVec.getElem_and, BitVec.getElem_xor, BitVec.getElem_allOnes]
  cases m.toBitVec[i] <;> cases b.toBitVec[i] <;> rfl
theorem sh_bit : ∀ i, i < 16 → ((1 : Int32) <<< (nI i &&& 31)) = nI (2 ^ i) := by decide +kernel
/-- the MASK's bit is set or not: the same in both, and below 65536 -/
theorem mask_bit {m i : Nat} (hm : m < 65536) (hi : i < 16) : (∃ n, n < 65536 ∧ nI m &&& (((1 : Int32) <<< (nI i &&& 31)) ^^^ (-1)) = nI n) ∧ ∃ n, n < 65536 ∧ nI m ||| ((1 : Int32) <<< (nI i &&& 31)) = nI n := by
  constructor
  · refine ⟨_, ?_, nI_bv _⟩
    show (nI m).toBitVec.toNat &&& _ < 65536
    rw [bv_nI (by omega)]
    exact Nat.lt_of_le_of_lt Nat.and_le_left hm
  · refine ⟨_, ?_, nI_bv _⟩
    rw [sh_bit i hi]
    show (nI m).toBitVec.toNat ||| (nI (2 ^ i)).toBitVec.toNat < 65536
    have h2 : 2 ^ i < 2 ^ 16 := Nat.pow_lt_pow_right (by decide) hi
    rw [bv_nI (by omega), bv_nI (by omega)]
    exact Nat.or_lt_two_pow (n := 16) hm h2
end DAT
