/-! what comes to an element, in both -/
section RCK
variable {B b L : Nat} {E : EC} {xs : Nat → Int32} {op st bt : Nat → Nat} {aL aS aO : Nat} {g : MT} {h h' h1 h2 hr hr' : CT} {q z p : Nat} {f : Nat → Nat}
theorem k_ord (K : EOK E b L xs op st bt aL aS aO) {k : Nat} (hk : k < 27) : pJx29ce0_ordinal_8abf5 E g h (op k) = some (nI k) := by
  unfold pJx29ce0_ordinal_8abf5
  rw [w_tg (k_tag K hk), (K.2.1 k (by omega)).2.1]; rfl
/-- what is left of a division -/
theorem n_rem (S : Sh B g) (R : RunC B q z g h) {x y : UInt64} (H : NumR (hD h (B + 136) 0) (hI h (B + 136) 1) x) (H2 : NumR (hD h (B + 137) 0) (hI h (B + 137) 1) y) : ∃ h1, pX1_remainder g h (B + 130) (B + 136) (B + 137) = some h1 ∧ NumR (hD h1 (B + 136) 0) (hI h1 (B + 136) 1) (frem x y) ∧ XFr B h h1 := n_rem2 S R H H2
theorem scal_rowq (M : MachA g (hR h) q) : RowA g (hR h) (q + 21) 4 := M.2.2.2.2.2.2.2.2.2.1
theorem word_rowq (M : MachA g (hR h) q) : RowA g (hR h) (q + 24) 64 := M.2.2.2.2.2.2.2.2.2.2.2
theorem rk_1 (K : EOK E b L xs op st bt aL aS aO) (S : Sh B g) (R : RunC B q z g h) (I : IC op g h p f) (e0 : f 0 = 1) (i pl : Int32) :
    ∃ h1, pX9_reckon_b55 E g (B + 132) p i pl h = some h1 ∧ NumR (hD h1 (B + 136) 0) (hI h1 (B + 136) 1) (fi2d i) ∧ XFr B h h1 := by
  obtain ⟨r1, r2, r3, r4, r5, r6, r7⟩ := R
  have T136 := st_136 S
  have T137 := st_137 S
  have T60 := k_tag K (k := f 0) (by omega)
  unfold pX9_reckon_b55
  rw [K.1.2.2.1, w_kR, w_tg I.1, w_lt, I.2.1, w_nn, w_tg T60, k_ord K (show f 0 < 27 by omega), w_bd, w_tg K.2.2.2.2.1.1, K.2.2.2.2.1.2.1, w_ix (show f 0 < 28 by omega) (by decide), nI_clamp (show f 0 < 2 ^ 31 by omega), K.2.2.2.2.1.2.2 _ (show f 0 < 28 by omega), e0, w_lt]
  rw [if_pos (show swV.getD 1 0 = 6 by decide), w_lt, pc_132_2 r1, w_nn, w_tg T136, n_set T136, w_bd]
  exact ⟨_, rfl, by rw [numW_d, numW_i]; exact NumR_ok (fi2d_nn i), (XFr.rf r7).x is01_0⟩
theorem rk_2 (K : EOK E b L xs op st bt aL aS aO) (S : Sh B g) (R : RunC B q z g h) (I : IC op g h p f) (e0 : f 0 = 2) (i pl : Int32) {hr : CT} (D : DM B q h hr) (hs : f 4 < 4) :
    ∃ h1, pX9_reckon_b55 E g (B + 132) p i pl h = some h1 ∧ NumR (hD h1 (B + 136) 0) (hI h1 (B + 136) 1) (hD hr (B + 193) (96 + f 4)) ∧ XFr B h h1 := by
  obtain ⟨r1, r2, r3, r4, r5, r6, r7⟩ := R
  have T136 := st_136 S
  have T137 := st_137 S
  have T60 := k_tag K (k := f 0) (by omega)
  unfold pX9_reckon_b55
  rw [K.1.2.2.1, w_kR, w_tg I.1, w_lt, I.2.1, w_nn, w_tg T60, k_ord K (show f 0 < 27 by omega), w_bd, w_tg K.2.2.2.2.1.1, K.2.2.2.2.1.2.1, w_ix (show f 0 < 28 by omega) (by decide), nI_clamp (show f 0 < 2 ^ 31 by omega), K.2.2.2.2.1.2.2 _ (show f 0 < 28 by omega), e0, w_lt]
  have N := dm_scal D hs
  have ft := row_fetch (h := h) (p := B + 136) (scal_rowq r4) T136 hs (by decide) N.1
  rw [if_neg (show ¬ swV.getD 2 0 = 6 by decide), if_pos (show swV.getD 2 0 = 7 by decide), w_lt, r2, w_nn, w_tg r4.1, w_lt, r4.2.2.2.2.2.2.2.2.1, w_lt, pc_132_2 r1, w_nn, w_tg (scal_rowq r4).1, w_nn, I.2.2 4 (by decide) (by decide), ft, w_bd]
  exact ⟨_, rfl, by rw [numW_d, numW_i]; exact N, (XFr.rf r7).x N.1⟩
theorem rk_3 (K : EOK E b L xs op st bt aL aS aO) (S : Sh B g) (R : RunC B q z g h) (I : IC op g h p f) (e0 : f 0 = 3) (i pl : Int32) {hr : CT} (D : DM B q h hr) {w : Nat} (hw : w < 64) (ew : pl = nI w) :
    ∃ h1, pX9_reckon_b55 E g (B + 132) p i pl h = some h1 ∧ NumR (hD h1 (B + 136) 0) (hI h1 (B + 136) 1) (hD hr (B + 193) (100 + w)) ∧ XFr B h h1 := by
  obtain ⟨r1, r2, r3, r4, r5, r6, r7⟩ := R
  have T136 := st_136 S
  have T137 := st_137 S
  have T60 := k_tag K (k := f 0) (by omega)
  unfold pX9_reckon_b55
  rw [K.1.2.2.1, w_kR, w_tg I.1, w_lt, I.2.1, w_nn, w_tg T60, k_ord K (show f 0 < 27 by omega), w_bd, w_tg K.2.2.2.2.1.1, K.2.2.2.2.1.2.1, w_ix (show f 0 < 28 by omega) (by decide), nI_clamp (show f 0 < 2 ^ 31 by omega), K.2.2.2.2.1.2.2 _ (show f 0 < 28 by omega), e0, w_lt]
  have N := dm_word D hw
  have ft := row_fetch (h := h) (p := B + 136) (word_rowq r4) T136 hw (by decide) N.1
  rw [if_neg (show ¬ swV.getD 3 0 = 6 by decide), if_neg (show ¬ swV.getD 3 0 = 7 by decide), if_pos (show swV.getD 3 0 = 8 by decide), w_lt, r2, w_nn, w_tg r4.1, w_lt, r4.2.2.2.2.2.2.2.2.2.2.1, w_lt, pc_132_2 r1, w_nn, w_tg (word_rowq r4).1, w_nn, ew, ft, w_bd]
  exact ⟨_, rfl, by rw [numW_d, numW_i]; exact N, (XFr.rf r7).x N.1⟩
theorem rk_5 (K : EOK E b L xs op st bt aL aS aO) (S : Sh B g) (R : RunC B q z g h) (I : IC op g h p f) (e0 : f 0 = 5) (i pl : Int32) {hr : CT} (D : DM B q h hr) {w : Nat} (hw : w < 64) (ew : pl = nI w) :
    ∃ h1, pX9_reckon_b55 E g (B + 132) p i pl h = some h1 ∧ NumR (hD h1 (B + 136) 0) (hI h1 (B + 136) 1) (hD hr (B + 193) (100 + w)) ∧ XFr B h h1 := by
  obtain ⟨r1, r2, r3, r4, r5, r6, r7⟩ := R
  have T136 := st_136 S
  have T137 := st_137 S
  have T60 := k_tag K (k := f 0) (by omega)
  unfold pX9_reckon_b55
  rw [K.1.2.2.1, w_kR, w_tg I.1, w_lt, I.2.1, w_nn, w_tg T60, k_ord K (show f 0 < 27 by omega), w_bd, w_tg K.2.2.2.2.1.1, K.2.2.2.2.1.2.1, w_ix (show f 0 < 28 by omega) (by decide), nI_clamp (show f 0 < 2 ^ 31 by omega), K.2.2.2.2.1.2.2 _ (show f 0 < 28 by omega), e0, w_lt]
  have N := dm_word D hw
  have ft := row_fetch (h := h) (p := B + 136) (word_rowq r4) T136 hw (by decide) N.1
  rw [if_neg (show ¬ swV.getD 5 0 = 6 by decide), if_neg (show ¬ swV.getD 5 0 = 7 by decide), if_neg (show ¬ swV.getD 5 0 = 8 by decide), if_pos (show swV.getD 5 0 = 9 by decide), w_lt, r2, w_nn, w_tg r4.1, w_lt, r4.2.2.2.2.2.2.2.2.2.2.1, w_lt, pc_132_2 r1, w_nn, w_tg (word_rowq r4).1, w_nn, ew, ft, w_bd]
  exact ⟨_, rfl, by rw [numW_d, numW_i]; exact N, (XFr.rf r7).x N.1⟩
theorem rk_7 (K : EOK E b L xs op st bt aL aS aO) (S : Sh B g) (R : RunC B q z g h) (I : IC op g h p f) (e0 : f 0 = 7) (i pl : Int32) {x : UInt64} (hX : NumR (hD h (B + 136) 0) (hI h (B + 136) 1) x) {y : UInt64} (hY : NumR (hD h (B + 137) 0) (hI h (B + 137) 1) y) :
    ∃ h1, pX9_reckon_b55 E g (B + 132) p i pl h = some h1 ∧ NumR (hD h1 (B + 136) 0) (hI h1 (B + 136) 1) (fadd x y) ∧ XFr B h h1 := by
  obtain ⟨r1, r2, r3, r4, r5, r6, r7⟩ := R
  have T136 := st_136 S
  have T137 := st_137 S
  have T60 := k_tag K (k := f 0) (by omega)
  unfold pX9_reckon_b55
  rw [K.1.2.2.1, w_kR, w_tg I.1, w_lt, I.2.1, w_nn, w_tg T60, k_ord K (show f 0 < 27 by omega), w_bd, w_tg K.2.2.2.2.1.1, K.2.2.2.2.1.2.1, w_ix (show f 0 < 28 by omega) (by decide), nI_clamp (show f 0 < 2 ^ 31 by omega), K.2.2.2.2.1.2.2 _ (show f 0 < 28 by omega), e0, w_lt]
  have N := R_plus hX hY
  rw [if_neg (show ¬ swV.getD 7 0 = 6 by decide), if_neg (show ¬ swV.getD 7 0 = 7 by decide), if_neg (show ¬ swV.getD 7 0 = 8 by decide), if_neg (show ¬ swV.getD 7 0 = 9 by decide), if_pos (show swV.getD 7 0 = 10 by decide), w_lt, w_lt, pc_132_2 r1, w_nn, w_tg T136, pc_132_3 r1, w_nn, n_plus T136 T137 hX.2.1 hY.2.1, w_bd]
  exact ⟨_, rfl, by rw [numW_d, numW_i]; exact N, (XFr.rf r7).x N.1⟩
theorem rk_8 (K : EOK E b L xs op st bt aL aS aO) (S : Sh B g) (R : RunC B q z g h) (I : IC op g h p f) (e0 : f 0 = 8) (i pl : Int32) {x : UInt64} (hX : NumR (hD h (B + 136) 0) (hI h (B + 136) 1) x) {y : UInt64} (hY : NumR (hD h (B + 137) 0) (hI h (B + 137) 1) y) :
    ∃ h1, pX9_reckon_b55 E g (B + 132) p i pl h = some h1 ∧ NumR (hD h1 (B + 136) 0) (hI h1 (B + 136) 1) (fsub x y) ∧ XFr B h h1 := by
  obtain ⟨r1, r2, r3, r4, r5, r6, r7⟩ := R
  have T136 := st_136 S
  have T137 := st_137 S
  have T60 := k_tag K (k := f 0) (by omega)
  unfold pX9_reckon_b55
  rw [K.1.2.2.1, w_kR, w_tg I.1, w_lt, I.2.1, w_nn, w_tg T60, k_ord K (show f 0 < 27 by omega), w_bd, w_tg K.2.2.2.2.1.1, K.2.2.2.2.1.2.1, w_ix (show f 0 < 28 by omega) (by decide), nI_clamp (show f 0 < 2 ^ 31 by omega), K.2.2.2.2.1.2.2 _ (show f 0 < 28 by omega), e0, w_lt]
  have N := R_minus hX hY
  rw [if_neg (show ¬ swV.getD 8 0 = 6 by decide), if_neg (show ¬ swV.getD 8 0 = 7 by decide), if_neg (show ¬ swV.getD 8 0 = 8 by decide), if_neg (show ¬ swV.getD 8 0 = 9 by decide), if_neg (show ¬ swV.getD 8 0 = 10 by decide), if_pos (show swV.getD 8 0 = 11 by decide), w_lt, w_lt, pc_132_2 r1, w_nn, w_tg T136, pc_132_3 r1, w_nn, n_minus T136 T137 hX.2.1 hY.2.1, w_bd]
  exact ⟨_, rfl, by rw [numW_d, numW_i]; exact N, (XFr.rf r7).x N.1⟩
theorem rk_9 (K : EOK E b L xs op st bt aL aS aO) (S : Sh B g) (R : RunC B q z g h) (I : IC op g h p f) (e0 : f 0 = 9) (i pl : Int32) {x : UInt64} (hX : NumR (hD h (B + 136) 0) (hI h (B + 136) 1) x) {y : UInt64} (hY : NumR (hD h (B + 137) 0) (hI h (B + 137) 1) y) :
    ∃ h1, pX9_reckon_b55 E g (B + 132) p i pl h = some h1 ∧ NumR (hD h1 (B + 136) 0) (hI h1 (B + 136) 1) (fmul x y) ∧ XFr B h h1 := by
  obtain ⟨r1, r2, r3, r4, r5, r6, r7⟩ := R
  have T136 := st_136 S
  have T137 := st_137 S
  have T60 := k_tag K (k := f 0) (by omega)
  unfold pX9_reckon_b55
  rw [K.1.2.2.1, w_kR, w_tg I.1, w_lt, I.2.1, w_nn, w_tg T60, k_ord K (show f 0 < 27 by omega), w_bd, w_tg K.2.2.2.2.1.1, K.2.2.2.2.1.2.1, w_ix (show f 0 < 28 by omega) (by decide), nI_clamp (show f 0 < 2 ^ 31 by omega), K.2.2.2.2.1.2.2 _ (show f 0 < 28 by omega), e0, w_lt]
  have N := R_times hX hY
  rw [if_neg (show ¬ swV.getD 9 0 = 6 by decide), if_neg (show ¬ swV.getD 9 0 = 7 by decide), if_neg (show ¬ swV.getD 9 0 = 8 by decide), if_neg (show ¬ swV.getD 9 0 = 9 by decide), if_neg (show ¬ swV.getD 9 0 = 10 by decide), if_neg (show ¬ swV.getD 9 0 = 11 by decide), if_pos (show swV.getD 9 0 = 12 by decide), w_lt, w_lt, pc_132_2 r1, w_nn, w_tg T136, pc_132_3 r1, w_nn, n_times T136 T137 hX.2.1 hY.2.1, w_bd]
  exact ⟨_, rfl, by rw [numW_d, numW_i]; exact N, (XFr.rf r7).x N.1⟩
theorem rk_10 (K : EOK E b L xs op st bt aL aS aO) (S : Sh B g) (R : RunC B q z g h) (I : IC op g h p f) (e0 : f 0 = 10) (i pl : Int32) {x : UInt64} (hX : NumR (hD h (B + 136) 0) (hI h (B + 136) 1) x) {y : UInt64} (hY : NumR (hD h (B + 137) 0) (hI h (B + 137) 1) y) :
    ∃ h1, pX9_reckon_b55 E g (B + 132) p i pl h = some h1 ∧ NumR (hD h1 (B + 136) 0) (hI h1 (B + 136) 1) (fdiv x y) ∧ XFr B h h1 := by
  obtain ⟨r1, r2, r3, r4, r5, r6, r7⟩ := R
  have T136 := st_136 S
  have T137 := st_137 S
  have T60 := k_tag K (k := f 0) (by omega)
  unfold pX9_reckon_b55
  rw [K.1.2.2.1, w_kR, w_tg I.1, w_lt, I.2.1, w_nn, w_tg T60, k_ord K (show f 0 < 27 by omega), w_bd, w_tg K.2.2.2.2.1.1, K.2.2.2.2.1.2.1, w_ix (show f 0 < 28 by omega) (by decide), nI_clamp (show f 0 < 2 ^ 31 by omega), K.2.2.2.2.1.2.2 _ (show f 0 < 28 by omega), e0, w_lt]
  have N := R_over hX hY
  rw [if_neg (show ¬ swV.getD 10 0 = 6 by decide), if_neg (show ¬ swV.getD 10 0 = 7 by decide), if_neg (show ¬ swV.getD 10 0 = 8 by decide), if_neg (show ¬ swV.getD 10 0 = 9 by decide), if_neg (show ¬ swV.getD 10 0 = 10 by decide), if_neg (show ¬ swV.getD 10 0 = 11 by decide), if_neg (show ¬ swV.getD 10 0 = 12 by decide), if_pos (show swV.getD 10 0 = 13 by decide), w_lt, w_lt, pc_132_2 r1, w_nn, w_tg T136, pc_132_3 r1, w_nn, n_over T136 T137 hX.2.1 hY.2.1, w_bd]
  exact ⟨_, rfl, by rw [numW_d, numW_i]; exact N, (XFr.rf r7).x N.1⟩
theorem rk_12 (K : EOK E b L xs op st bt aL aS aO) (S : Sh B g) (R : RunC B q z g h) (I : IC op g h p f) (e0 : f 0 = 12) (i pl : Int32) {x : UInt64} (hX : NumR (hD h (B + 136) 0) (hI h (B + 136) 1) x) {y : UInt64} (hY : NumR (hD h (B + 137) 0) (hI h (B + 137) 1) y) :
    ∃ h1, pX9_reckon_b55 E g (B + 132) p i pl h = some h1 ∧ NumR (hD h1 (B + 136) 0) (hI h1 (B + 136) 1) (fmin x y) ∧ XFr B h h1 := by
  obtain ⟨r1, r2, r3, r4, r5, r6, r7⟩ := R
  have T136 := st_136 S
  have T137 := st_137 S
  have T60 := k_tag K (k := f 0) (by omega)
  unfold pX9_reckon_b55
  rw [K.1.2.2.1, w_kR, w_tg I.1, w_lt, I.2.1, w_nn, w_tg T60, k_ord K (show f 0 < 27 by omega), w_bd, w_tg K.2.2.2.2.1.1, K.2.2.2.2.1.2.1, w_ix (show f 0 < 28 by omega) (by decide), nI_clamp (show f 0 < 2 ^ 31 by omega), K.2.2.2.2.1.2.2 _ (show f 0 < 28 by omega), e0, w_lt]
  have N := R_least hX hY
  rw [if_neg (show ¬ swV.getD 12 0 = 6 by decide), if_neg (show ¬ swV.getD 12 0 = 7 by decide), if_neg (show ¬ swV.getD 12 0 = 8 by decide), if_neg (show ¬ swV.getD 12 0 = 9 by decide), if_neg (show ¬ swV.getD 12 0 = 10 by decide), if_neg (show ¬ swV.getD 12 0 = 11 by decide), if_neg (show ¬ swV.getD 12 0 = 12 by decide), if_neg (show ¬ swV.getD 12 0 = 13 by decide), if_neg (show ¬ swV.getD 12 0 = 14 by decide), if_pos (show swV.getD 12 0 = 15 by decide), w_lt, w_lt, pc_132_2 r1, w_nn, w_tg T136, pc_132_3 r1, w_nn, n_least T136 T137 hX.2.1 hY.2.1, w_bd]
  exact ⟨_, rfl, by rw [numW_d, numW_i]; exact N, (XFr.rf r7).x N.1⟩
theorem rk_13 (K : EOK E b L xs op st bt aL aS aO) (S : Sh B g) (R : RunC B q z g h) (I : IC op g h p f) (e0 : f 0 = 13) (i pl : Int32) {x : UInt64} (hX : NumR (hD h (B + 136) 0) (hI h (B + 136) 1) x) {y : UInt64} (hY : NumR (hD h (B + 137) 0) (hI h (B + 137) 1) y) :
    ∃ h1, pX9_reckon_b55 E g (B + 132) p i pl h = some h1 ∧ NumR (hD h1 (B + 136) 0) (hI h1 (B + 136) 1) (fmax x y) ∧ XFr B h h1 := by
  obtain ⟨r1, r2, r3, r4, r5, r6, r7⟩ := R
  have T136 := st_136 S
  have T137 := st_137 S
  have T60 := k_tag K (k := f 0) (by omega)
  unfold pX9_reckon_b55
  rw [K.1.2.2.1, w_kR, w_tg I.1, w_lt, I.2.1, w_nn, w_tg T60, k_ord K (show f 0 < 27 by omega), w_bd, w_tg K.2.2.2.2.1.1, K.2.2.2.2.1.2.1, w_ix (show f 0 < 28 by omega) (by decide), nI_clamp (show f 0 < 2 ^ 31 by omega), K.2.2.2.2.1.2.2 _ (show f 0 < 28 by omega), e0, w_lt]
  have N := R_most hX hY
  rw [if_neg (show ¬ swV.getD 13 0 = 6 by decide), if_neg (show ¬ swV.getD 13 0 = 7 by decide), if_neg (show ¬ swV.getD 13 0 = 8 by decide), if_neg (show ¬ swV.getD 13 0 = 9 by decide), if_neg (show ¬ swV.getD 13 0 = 10 by decide), if_neg (show ¬ swV.getD 13 0 = 11 by decide), if_neg (show ¬ swV.getD 13 0 = 12 by decide), if_neg (show ¬ swV.getD 13 0 = 13 by decide), if_neg (show ¬ swV.getD 13 0 = 14 by decide), if_neg (show ¬ swV.getD 13 0 = 15 by decide), if_pos (show swV.getD 13 0 = 16 by decide), w_lt, w_lt, pc_132_2 r1, w_nn, w_tg T136, pc_132_3 r1, w_nn, n_most T136 T137 hX.2.1 hY.2.1, w_bd]
  exact ⟨_, rfl, by rw [numW_d, numW_i]; exact N, (XFr.rf r7).x N.1⟩
theorem rk_11 (K : EOK E b L xs op st bt aL aS aO) (S : Sh B g) (R : RunC B q z g h) (I : IC op g h p f) (e0 : f 0 = 11) (i pl : Int32) {x : UInt64} (hX : NumR (hD h (B + 136) 0) (hI h (B + 136) 1) x) {y : UInt64} (hY : NumR (hD h (B + 137) 0) (hI h (B + 137) 1) y) :
    ∃ h1, pX9_reckon_b55 E g (B + 132) p i pl h = some h1 ∧ NumR (hD h1 (B + 136) 0) (hI h1 (B + 136) 1) (frem x y) ∧ XFr B h h1 := by
  obtain ⟨h1, n1, n2, n3⟩ := n_rem S R hX hY
  obtain ⟨r1, r2, r3, r4, r5, r6, r7⟩ := R
  have T136 := st_136 S
  have T137 := st_137 S
  have T60 := k_tag K (k := f 0) (by omega)
  unfold pX9_reckon_b55
  rw [K.1.2.2.1, w_kR, w_tg I.1, w_lt, I.2.1, w_nn, w_tg T60, k_ord K (show f 0 < 27 by omega), w_bd, w_tg K.2.2.2.2.1.1, K.2.2.2.2.1.2.1, w_ix (show f 0 < 28 by omega) (by decide), nI_clamp (show f 0 < 2 ^ 31 by omega), K.2.2.2.2.1.2.2 _ (show f 0 < 28 by omega), e0, w_lt]
  rw [if_neg (show ¬ swV.getD 11 0 = 6 by decide), if_neg (show ¬ swV.getD 11 0 = 7 by decide), if_neg (show ¬ swV.getD 11 0 = 8 by decide), if_neg (show ¬ swV.getD 11 0 = 9 by decide), if_neg (show ¬ swV.getD 11 0 = 10 by decide), if_neg (show ¬ swV.getD 11 0 = 11 by decide), if_neg (show ¬ swV.getD 11 0 = 12 by decide), if_neg (show ¬ swV.getD 11 0 = 13 by decide), if_pos (show swV.getD 11 0 = 14 by decide), w_lt, w_lt, w_lt, pc_132_0 r1, w_nn, w_tg (st_130 S), pc_132_2 r1, w_nn, pc_132_3 r1, w_nn, n1, w_bd]
  exact ⟨h1, rfl, n2, n3⟩
theorem rk_14 (K : EOK E b L xs op st bt aL aS aO) (S : Sh B g) (R : RunC B q z g h) (I : IC op g h p f) (e0 : f 0 = 14) (i pl : Int32) {x : UInt64} (hX : NumR (hD h (B + 136) 0) (hI h (B + 136) 1) x) :
    ∃ h1, pX9_reckon_b55 E g (B + 132) p i pl h = some h1 ∧ NumR (hD h1 (B + 136) 0) (hI h1 (B + 136) 1) x ∧ XFr B h h1 := by
  obtain ⟨r1, r2, r3, r4, r5, r6, r7⟩ := R
  have T136 := st_136 S
  have T137 := st_137 S
  have T60 := k_tag K (k := f 0) (by omega)
  unfold pX9_reckon_b55
  rw [K.1.2.2.1, w_kR, w_tg I.1, w_lt, I.2.1, w_nn, w_tg T60, k_ord K (show f 0 < 27 by omega), w_bd, w_tg K.2.2.2.2.1.1, K.2.2.2.2.1.2.1, w_ix (show f 0 < 28 by omega) (by decide), nI_clamp (show f 0 < 2 ^ 31 by omega), K.2.2.2.2.1.2.2 _ (show f 0 < 28 by omega), e0, w_lt]
  rw [if_neg (show ¬ swV.getD 14 0 = 6 by decide), if_neg (show ¬ swV.getD 14 0 = 7 by decide), if_neg (show ¬ swV.getD 14 0 = 8 by decide), if_neg (show ¬ swV.getD 14 0 = 9 by decide), if_neg (show ¬ swV.getD 14 0 = 10 by decide), if_neg (show ¬ swV.getD 14 0 = 11 by decide), if_neg (show ¬ swV.getD 14 0 = 12 by decide), if_neg (show ¬ swV.getD 14 0 = 13 by decide), if_neg (show ¬ swV.getD 14 0 = 14 by decide), if_neg (show ¬ swV.getD 14 0 = 15 by decide), if_neg (show ¬ swV.getD 14 0 = 16 by decide), if_neg (show ¬ swV.getD 14 0 = 17 by decide), if_neg (show ¬ swV.getD 14 0 = 18 by decide)]
  exact ⟨h, rfl, hX, XFr.rf r7⟩
theorem rk_15 (K : EOK E b L xs op st bt aL aS aO) (S : Sh B g) (R : RunC B q z g h) (I : IC op g h p f) (e0 : f 0 = 15) (i pl : Int32) {x : UInt64} (hX : NumR (hD h (B + 136) 0) (hI h (B + 136) 1) x) :
    ∃ h1, pX9_reckon_b55 E g (B + 132) p i pl h = some h1 ∧ NumR (hD h1 (B + 136) 0) (hI h1 (B + 136) 1) (cnD (FP.f2d (cnF (FP.d2f x)))) ∧ XFr B h h1 := by
  obtain ⟨r1, r2, r3, r4, r5, r6, r7⟩ := R
  have T136 := st_136 S
  have T137 := st_137 S
  have T60 := k_tag K (k := f 0) (by omega)
  unfold pX9_reckon_b55
  rw [K.1.2.2.1, w_kR, w_tg I.1, w_lt, I.2.1, w_nn, w_tg T60, k_ord K (show f 0 < 27 by omega), w_bd, w_tg K.2.2.2.2.1.1, K.2.2.2.2.1.2.1, w_ix (show f 0 < 28 by omega) (by decide), nI_clamp (show f 0 < 2 ^ 31 by omega), K.2.2.2.2.1.2.2 _ (show f 0 < 28 by omega), e0, w_lt]
  obtain ⟨v, o, n1, n2⟩ := n_toSingle T136 hX
  rw [if_neg (show ¬ swV.getD 15 0 = 6 by decide), if_neg (show ¬ swV.getD 15 0 = 7 by decide), if_neg (show ¬ swV.getD 15 0 = 8 by decide), if_neg (show ¬ swV.getD 15 0 = 9 by decide), if_neg (show ¬ swV.getD 15 0 = 10 by decide), if_neg (show ¬ swV.getD 15 0 = 11 by decide), if_neg (show ¬ swV.getD 15 0 = 12 by decide), if_neg (show ¬ swV.getD 15 0 = 13 by decide), if_neg (show ¬ swV.getD 15 0 = 14 by decide), if_neg (show ¬ swV.getD 15 0 = 15 by decide), if_neg (show ¬ swV.getD 15 0 = 16 by decide), if_pos (show swV.getD 15 0 = 17 by decide), w_lt, pc_132_2 r1, w_nn, w_tg T136, n1, w_bd]
  exact ⟨_, rfl, by rw [numW_d, numW_i]; exact n2, (XFr.rf r7).x n2.1⟩
theorem rk_16 (K : EOK E b L xs op st bt aL aS aO) (S : Sh B g) (R : RunC B q z g h) (I : IC op g h p f) (e0 : f 0 = 16) (i pl : Int32) {x : UInt64} (hX : NumR (hD h (B + 136) 0) (hI h (B + 136) 1) x) :
    ∃ h1, pX9_reckon_b55 E g (B + 132) p i pl h = some h1 ∧ NumR (hD h1 (B + 136) 0) (hI h1 (B + 136) 1) (fl2d (FP.d2l x)) ∧ XFr B h h1 := by
  obtain ⟨r1, r2, r3, r4, r5, r6, r7⟩ := R
  have T136 := st_136 S
  have T137 := st_137 S
  have T60 := k_tag K (k := f 0) (by omega)
  unfold pX9_reckon_b55
  rw [K.1.2.2.1, w_kR, w_tg I.1, w_lt, I.2.1, w_nn, w_tg T60, k_ord K (show f 0 < 27 by omega), w_bd, w_tg K.2.2.2.2.1.1, K.2.2.2.2.1.2.1, w_ix (show f 0 < 28 by omega) (by decide), nI_clamp (show f 0 < 2 ^ 31 by omega), K.2.2.2.2.1.2.2 _ (show f 0 < 28 by omega), e0, w_lt]
  rw [if_neg (show ¬ swV.getD 16 0 = 6 by decide), if_neg (show ¬ swV.getD 16 0 = 7 by decide), if_neg (show ¬ swV.getD 16 0 = 8 by decide), if_neg (show ¬ swV.getD 16 0 = 9 by decide), if_neg (show ¬ swV.getD 16 0 = 10 by decide), if_neg (show ¬ swV.getD 16 0 = 11 by decide), if_neg (show ¬ swV.getD 16 0 = 12 by decide), if_neg (show ¬ swV.getD 16 0 = 13 by decide), if_neg (show ¬ swV.getD 16 0 = 14 by decide), if_neg (show ¬ swV.getD 16 0 = 15 by decide), if_neg (show ¬ swV.getD 16 0 = 16 by decide), if_neg (show ¬ swV.getD 16 0 = 17 by decide), if_pos (show swV.getD 16 0 = 18 by decide), w_lt, pc_132_2 r1, w_nn, w_tg T136, n_toWhole T136 hX, w_bd]
  exact ⟨_, rfl, by rw [numW_d, numW_i]; exact NumR_ok (fl2d_nn _), (XFr.rf r7).x is01_0⟩
/-- what comes to D[i]: the class reckons it into x; the reference's value -/
theorem reckon_both (K : EOK E b L xs op st bt aL aS aO) (S : Sh B g) (p2 : PtR B (hR hr)) (Q : QZ B q z) (R : RunC B q z g h) (D : DM B q h hr) (I : IC op g h p f) (hf : FOK f) (hw : wrD (f 0)) {ik i : Nat} (hk : ik < 30) (M : IM B hr ik f) (hi : i < 16) {pl : Int32}
    (hpl : isMm (f 0) → ∃ k, pl = nI k ∧ k < 64 ∧ pX13_placeOf g hr (B + 187) (nI ik) (nI i) = some (nI k)) :
    ∃ h1 x, pX9_reckon E g h (B + 132) p (nI i) pl = some h1 ∧ pX13_valueOf g hr (B + 187) (nI ik) (nI i) = some x ∧ NumR (hD h1 (B + 136) 0) (hI h1 (B + 136) 1) x ∧ XFr B h h1 := by
  have r7 := R.2.2.2.2.2.2
  have r4 := R.2.2.2.1
  have r2 := R.2.1
  have r1 := R.1
  have hp := ic_out S I.1
  have T136 := st_136 S
  have T137 := st_137 S
  have T60 := k_tag K hf.1
  obtain ⟨a0, a1, a2, a3, a4, a5, a6, a7⟩ := im_at S p2 hk M
  obtain ⟨-, -, -, -, m5, -⟩ := kt_m (f 0) hf.1
  have NA := dm_num D hf.2.2.1 hi
  have NB := dm_num D hf.2.2.2.1 hi
  -- A, B
  have ld : ∃ h1, pX9_reckon E g h (B + 132) p (nI i) pl = pX9_reckon_b55 E g (B + 132) p (nI i) pl h1 ∧ XFr B h h1 ∧ (rdA (f 0) → NumR (hD h1 (B + 136) 0) (hI h1 (B + 136) 1) (hD hr (B + 193) (16 * f 2 + i))) ∧ (rdB (f 0) → NumR (hD h1 (B + 137) 0) (hI h1 (B + 137) 1) (hD hr (B + 193) (16 * f 3 + i))) := by
    have b27 : ∀ h1, XFr B h h1 → (rdA (f 0) → NumR (hD h1 (B + 136) 0) (hI h1 (B + 136) 1) (hD hr (B + 193) (16 * f 2 + i))) → ∃ h2, pX9_reckon_b27 E g (B + 132) p (nI i) pl h1 = pX9_reckon_b55 E g (B + 132) p (nI i) pl h2 ∧ XFr B h h2 ∧ (rdA (f 0) → NumR (hD h2 (B + 136) 0) (hI h2 (B + 136) 1) (hD hr (B + 193) (16 * f 2 + i))) ∧ (rdB (f 0) → NumR (hD h2 (B + 137) 0) (hI h2 (B + 137) 1) (hD hr (B + 193) (16 * f 3 + i))) := fun h1 x hA => by
      have I1 := x.ic I hp
      have R1 := x.run R
      have D1 := x.dm Q D
      unfold pX9_reckon_b27
      rw [w_tg I1.1, w_lt, I1.2.1, w_nn, w_tg T60, d_rB K hf.1, w_bd]
      simp only [b01, ite_not]
      by_cases c : rdB (f 0)
      · have N := dm_num D1 hf.2.2.2.1 hi
        have ft := mac_fetch (t := B + 137) R1.2.2.2.1 D1.bits hf.2.2.2.1 hi T137
        rw [if_pos c, w_lt, R1.2.1, w_lt, pc_132_3 R1.1, w_nn, w_tg R1.2.2.2.1.1, w_nn, I1.2.2 3 (by decide) (by decide), ft, w_bd]
        exact ⟨_, rfl, x.y N.1, fun q => by rw [numW_I _ _ _ _ (by omega), numW_D _ _ _ _ (by omega)]; exact hA q, fun _ => by rw [numW_d, numW_i]; exact N⟩
      · rw [if_neg c]
        exact ⟨h1, rfl, x, hA, fun q => absurd q c⟩
    unfold pX9_reckon
    rw [w_tg (st_132 S), w_tg I.1, w_lt, I.2.1, w_nn, w_tg T60, d_rA K hf.1, w_bd]
    simp only [b01, ite_not]
    by_cases c : rdA (f 0)
    · have ft := mac_fetch (t := B + 136) r4 D.bits hf.2.2.1 hi T136
      rw [if_pos c, w_lt, r2, w_lt, pc_132_2 r1, w_nn, w_tg r4.1, w_nn, I.2.2 2 (by decide) (by decide), ft, w_bd]
      exact b27 _ ((XFr.rf r7).x NA.1) fun _ => by rw [numW_d, numW_i]; exact NA
    · rw [if_neg c]
      exact b27 h (XFr.rf r7) fun q => absurd q c
  obtain ⟨h1, e1, x1, nA, nB⟩ := ld
  have I1 := x1.ic I hp
  have R1 := x1.run R
  have D1 := x1.dm Q D
  have q1 : ∀ j, j < 27 → (nI (f 0) = nI j) = (f 0 = j) := fun j hj => q_k hf.1 hj
  have q1' : (nI (f 0) = 1) = (f 0 = 1) := q1 1 (by decide)
  have q2' : (nI (f 0) = 2) = (f 0 = 2) := q1 2 (by decide)
  rw [e1]
  -- the reference's value of two or one
  have vr : ¬ isMm (f 0) → f 0 ≠ 1 → f 0 ≠ 2 → pX13_valueOf g hr (B + 187) (nI ik) (nI i) = some (pX13_reckoned (nI (f 0)) (hD hr (B + 193) (16 * f 2 + i)) (hD hr (B + 193) (16 * f 3 + i))) := fun c1 c2 c3 => by
    have l2 := hf.2.2.1
    have l3 := hf.2.2.2.1
    unfold pX13_valueOf
    rw [w_tg (st_187 S), a0, w_bd]
    simp only [q1', q2', m5, ite_not]
    rw [if_neg c2, if_neg c3, if_neg c1, w_lt, pr_187_20 p2, a2, w_bd, w_nn, w_tg (st_193 S), sl_193 S, r_cell, w_ix (show 16 * f 2 + i < 984 by omega) (by decide), w_lt, a3, w_bd, w_nn, w_tg (st_193 S), sl_193 S, r_cell, w_ix (show 16 * f 3 + i < 984 by omega) (by decide), nI_clamp (by omega), nI_clamp (by omega)]
  have vm : isMm (f 0) → ∀ k, k < 64 → pX13_placeOf g hr (B + 187) (nI ik) (nI i) = some (nI k) → pX13_valueOf g hr (B + 187) (nI ik) (nI i) = some (hD hr (B + 193) (100 + k)) := fun c k hk64 hpk => by
    unfold pX13_valueOf
    rw [w_tg (st_187 S), a0, w_bd]
    simp only [q1', q2', m5, ite_not]
    rw [if_neg (show ¬ f 0 = 1 by omega), if_neg (show ¬ f 0 = 2 by omega), if_pos c, w_lt, pr_187_20 p2, hpk, w_bd, w_nn, w_tg (st_193 S), sl_193 S, show (100 : Int32) + nI k = nI (100 + k) from nI_add 100 k, w_ix (show 100 + k < 984 by omega) (by decide), nI_clamp (by omega)]
  by_cases c1 : f 0 = 1
  · obtain ⟨h2, s1, s2, s3⟩ := rk_1 K S R1 I1 c1 (nI i) pl
    refine ⟨h2, fi2d (nI i), s1, ?_, s2, x1.tr s3⟩
    unfold pX13_valueOf
    rw [w_tg (st_187 S), a0, w_bd]
    simp only [q1']
    rw [if_pos c1]
  by_cases c2 : f 0 = 2
  · obtain ⟨h2, s1, s2, s3⟩ := rk_2 K S R1 I1 c2 (nI i) pl D1 hf.2.2.2.2.1
    refine ⟨h2, hD hr (B + 193) (96 + f 4), s1, ?_, s2, x1.tr s3⟩
    rw [if_neg (show ¬ (f 0 = 3 ∨ f 0 = 4) by omega)] at a5
    have l4 := hf.2.2.2.2.1
    unfold pX13_valueOf
    rw [w_tg (st_187 S), a0, w_bd]
    simp only [q1', q2']
    rw [if_neg c1, if_pos c2, w_lt, pr_187_20 p2, a5, w_bd, w_nn, w_tg (st_193 S), sl_193 S, show (96 : Int32) + nI (f 4) = nI (96 + f 4) from nI_add 96 (f 4), w_ix (show 96 + f 4 < 984 by omega) (by decide), nI_clamp (by omega)]
  by_cases c3 : f 0 = 3
  · obtain ⟨w, w1, w2, w3⟩ := hpl (by omega)
    obtain ⟨h2, s1, s2, s3⟩ := rk_3 K S R1 I1 c3 (nI i) pl D1 w2 w1
    exact ⟨h2, _, s1, vm (by omega) w w2 w3, s2, x1.tr s3⟩
  by_cases c5 : f 0 = 5
  · obtain ⟨w, w1, w2, w3⟩ := hpl (by omega)
    obtain ⟨h2, s1, s2, s3⟩ := rk_5 K S R1 I1 c5 (nI i) pl D1 w2 w1
    exact ⟨h2, _, s1, vm (by omega) w w2 w3, s2, x1.tr s3⟩
  by_cases c7 : f 0 = 7
  · obtain ⟨h2, s1, s2, s3⟩ := rk_7 K S R1 I1 c7 (nI i) pl (nA (by omega)) (nB (by omega))
    exact ⟨h2, _, s1, (vr (by omega) (by omega) (by omega)).trans (by rw [c7]; unfold pX13_reckoned; rw [if_pos (show nI 7 = 7 from rfl)]), s2, x1.tr s3⟩
  by_cases c8 : f 0 = 8
  · obtain ⟨h2, s1, s2, s3⟩ := rk_8 K S R1 I1 c8 (nI i) pl (nA (by omega)) (nB (by omega))
    exact ⟨h2, _, s1, (vr (by omega) (by omega) (by omega)).trans (by rw [c8]; unfold pX13_reckoned; rw [if_neg (show ¬ nI 8 = 7 by decide), if_pos (show nI 8 = 8 from rfl)]), s2, x1.tr s3⟩
  by_cases c9 : f 0 = 9
  · obtain ⟨h2, s1, s2, s3⟩ := rk_9 K S R1 I1 c9 (nI i) pl (nA (by omega)) (nB (by omega))
    exact ⟨h2, _, s1, (vr (by omega) (by omega) (by omega)).trans (by rw [c9]; unfold pX13_reckoned; rw [if_neg (show ¬ nI 9 = 7 by decide), if_neg (show ¬ nI 9 = 8 by decide), if_pos (show nI 9 = 9 from rfl)]), s2, x1.tr s3⟩
  by_cases c10 : f 0 = 10
  · obtain ⟨h2, s1, s2, s3⟩ := rk_10 K S R1 I1 c10 (nI i) pl (nA (by omega)) (nB (by omega))
    exact ⟨h2, _, s1, (vr (by omega) (by omega) (by omega)).trans (by rw [c10]; unfold pX13_reckoned; rw [if_neg (show ¬ nI 10 = 7 by decide), if_neg (show ¬ nI 10 = 8 by decide), if_neg (show ¬ nI 10 = 9 by decide), if_pos (show nI 10 = 10 from rfl)]), s2, x1.tr s3⟩
  by_cases c11 : f 0 = 11
  · obtain ⟨h2, s1, s2, s3⟩ := rk_11 K S R1 I1 c11 (nI i) pl (nA (by omega)) (nB (by omega))
    exact ⟨h2, _, s1, (vr (by omega) (by omega) (by omega)).trans (by rw [c11]; unfold pX13_reckoned; rw [if_neg (show ¬ nI 11 = 7 by decide), if_neg (show ¬ nI 11 = 8 by decide), if_neg (show ¬ nI 11 = 9 by decide), if_neg (show ¬ nI 11 = 10 by decide), if_pos (show nI 11 = 11 from rfl)]), s2, x1.tr s3⟩
  by_cases c12 : f 0 = 12
  · obtain ⟨h2, s1, s2, s3⟩ := rk_12 K S R1 I1 c12 (nI i) pl (nA (by omega)) (nB (by omega))
    exact ⟨h2, _, s1, (vr (by omega) (by omega) (by omega)).trans (by rw [c12]; unfold pX13_reckoned; rw [if_neg (show ¬ nI 12 = 7 by decide), if_neg (show ¬ nI 12 = 8 by decide), if_neg (show ¬ nI 12 = 9 by decide), if_neg (show ¬ nI 12 = 10 by decide), if_neg (show ¬ nI 12 = 11 by decide), if_pos (show nI 12 = 12 from rfl)]), s2, x1.tr s3⟩
  by_cases c13 : f 0 = 13
  · obtain ⟨h2, s1, s2, s3⟩ := rk_13 K S R1 I1 c13 (nI i) pl (nA (by omega)) (nB (by omega))
    exact ⟨h2, _, s1, (vr (by omega) (by omega) (by omega)).trans (by rw [c13]; unfold pX13_reckoned; rw [if_neg (show ¬ nI 13 = 7 by decide), if_neg (show ¬ nI 13 = 8 by decide), if_neg (show ¬ nI 13 = 9 by decide), if_neg (show ¬ nI 13 = 10 by decide), if_neg (show ¬ nI 13 = 11 by decide), if_neg (show ¬ nI 13 = 12 by decide), if_pos (show nI 13 = 13 from rfl)]), s2, x1.tr s3⟩
  by_cases c14 : f 0 = 14
  · obtain ⟨h2, s1, s2, s3⟩ := rk_14 K S R1 I1 c14 (nI i) pl (nA (by omega))
    exact ⟨h2, _, s1, (vr (by omega) (by omega) (by omega)).trans (by rw [c14]; unfold pX13_reckoned; rw [if_neg (show ¬ nI 14 = 7 by decide), if_neg (show ¬ nI 14 = 8 by decide), if_neg (show ¬ nI 14 = 9 by decide), if_neg (show ¬ nI 14 = 10 by decide), if_neg (show ¬ nI 14 = 11 by decide), if_neg (show ¬ nI 14 = 12 by decide), if_neg (show ¬ nI 14 = 13 by decide), if_neg (show ¬ nI 14 = 15 by decide), if_neg (show ¬ nI 14 = 16 by decide)]), s2, x1.tr s3⟩
  by_cases c15 : f 0 = 15
  · obtain ⟨h2, s1, s2, s3⟩ := rk_15 K S R1 I1 c15 (nI i) pl (nA (by omega))
    exact ⟨h2, _, s1, (vr (by omega) (by omega) (by omega)).trans (by rw [c15]; unfold pX13_reckoned; rw [if_neg (show ¬ nI 15 = 7 by decide), if_neg (show ¬ nI 15 = 8 by decide), if_neg (show ¬ nI 15 = 9 by decide), if_neg (show ¬ nI 15 = 10 by decide), if_neg (show ¬ nI 15 = 11 by decide), if_neg (show ¬ nI 15 = 12 by decide), if_neg (show ¬ nI 15 = 13 by decide), if_pos (show nI 15 = 15 from rfl)]), s2, x1.tr s3⟩
  by_cases c16 : f 0 = 16
  · obtain ⟨h2, s1, s2, s3⟩ := rk_16 K S R1 I1 c16 (nI i) pl (nA (by omega))
    exact ⟨h2, _, s1, (vr (by omega) (by omega) (by omega)).trans (by rw [c16]; unfold pX13_reckoned; rw [if_neg (show ¬ nI 16 = 7 by decide), if_neg (show ¬ nI 16 = 8 by decide), if_neg (show ¬ nI 16 = 9 by decide), if_neg (show ¬ nI 16 = 10 by decide), if_neg (show ¬ nI 16 = 11 by decide), if_neg (show ¬ nI 16 = 12 by decide), if_neg (show ¬ nI 16 = 13 by decide), if_neg (show ¬ nI 16 = 15 by decide), if_pos (show nI 16 = 16 from rfl)]), s2, x1.tr s3⟩
  exact absurd hw (by omega)
end RCK
