/-! all elements, in both -/
section ELA
variable {B b L : Nat} {E : EC} {xs : Nat → Int32} {op st bt : Nat → Nat} {aL aS aO : Nat} {g : MT} {q z p : Nat} {f : Nat → Nat} {ik n nb y t : Nat} {G0 : Nat → Nat → Int32}
theorem up2_up2 {α : Type} (f : Nat → Nat → α) (a k : Nat) (x w : α) : up2 (up2 f a k x) a k w = up2 f a k w := by
  funext b j
  unfold up2
  split <;> rfl
theorem up2_id {α : Type} {f : Nat → Nat → α} {a k : Nat} {x : α} (e : f a k = x) : up2 f a k x = f := by
  funext b j
  unfold up2
  split
  · rename_i c; rw [c.1, c.2, e]
  · rfl
def ELin (B q z : Nat) (op : Nat → Nat) (g : MT) (p : Nat) (f : Nat → Nat) (ik n nb y t i T pk : Nat) (last : Int32) (G0 : Nat → Nat → Int32) (F : Nat → Nat → Nat) (h hr : CT) : Prop := SP B q z op g p f ik n nb y h hr ∧ TC z h F (up2 G0 2 ik last) ∧ TR B y hr F G0 ∧ F 0 8 = t + 1 ∧ (∀ a j, F a j ≤ T) ∧ (isMm (f 0) → ∀ b, F 6 b ≤ tkS F i + 11) ∧ ((i = 0 ∧ last = -1) ∨ (0 < i ∧ last = nI (F 0 10))) ∧ hI h (B + 132) 10 = nI pk ∧ hI hr (B + 187) 42 = nI pk ∧ pk ≤ i ∧ (pk ≠ 0 → f 0 = 21) ∧ (0 < i → t ≤ F 0 10) ∧ (¬ isMm (f 0) → ∀ b, F 6 b ≤ F 3 0 + 11)
theorem els_loop (K : EOK E b L xs op st bt aL aS aO) (S : Sh B g) (Q : QZ B q z) (hf : FOK f) (he : isEl (f 0)) (hk : ik < 30) (hn : n ≤ 16) (nb1 : 1 ≤ nb) (nb2 : nb ≤ 16) (y1 : 1 ≤ y) (y2 : y ≤ 12) :
    ∀ (d i fu fu' T pk : Nat) (last : Int32) (F : Nat → Nat → Nat) (h hr : CT), i + d = n → d < fu → d < fu' → T + 13 * d + 100 < 2 ^ 30 → (i = 0 → pX13_missesRow g hr (B + 187) (nI ik) = some 0) → ELin B q z op g p f ik n nb y t i T pk last G0 F h hr →
    (∃ h' hr' F' pk' last', pX9_doElements_l35 E g (B + 132) (nI ik) p fu (nI i) h = (bd (pX10_finish E g h' z p (nI pk')) fun h6 => some (1, h6)) ∧ pX13_elements_l18 g (B + 187) (nI ik) (nI t) fu' (nI (f 0)) last (nI i) hr = some (last', hr') ∧ ELin B q z op g p f ik n nb y t n (T + 13 * d) pk' last' G0 F' h' hr' ∧ NFr B q z h h' ∧ MFr B hr hr' ∧ ∀ j, j = 3 ∨ j = 4 ∨ j = 5 → hI h' z j = hI h z j)
    ∨ ∃ h' hr' F' c i' last', (c = 1 ∨ c = 3) ∧ pX9_doElements_l35 E g (B + 132) (nI ik) p fu (nI i) h = some (0, trC z h' c ik i') ∧ pX13_elements_l18 g (B + 187) (nI ik) (nI t) fu' (nI (f 0)) last (nI i) hr = some (last', trR B hr' c ik i') ∧ i' < 16 ∧ SP B q z op g p f ik n nb y h' hr' ∧ TC z h' F' (up2 G0 2 ik last') ∧ TR B y hr' F' G0 ∧ (∀ a j, F' a j ≤ T + 13 * d) ∧ (last' = -1 ∨ ∃ w, w < 2 ^ 30 ∧ last' = nI w) ∧ NFr B q z h h' ∧ MFr B hr hr' := by
  intro d
  induction d with
  | zero =>
    intro i fu fu' T pk last F h hr hd hfu hfu' hT hm H
    obtain ⟨fu, rfl⟩ : ∃ w, fu = w + 1 := ⟨fu - 1, by omega⟩
    obtain ⟨fu', rfl⟩ : ∃ w, fu' = w + 1 := ⟨fu' - 1, by omega⟩
    obtain rfl : i = n := by omega
    obtain ⟨X, H2⟩ := H
    have XX := X
    obtain ⟨R, p2, D, I, M, ⟨e5, e6, e7⟩, ⟨v0, v1, v2⟩, -⟩ := X
    have k1 := H2.2.2.2.2.2.2.1
    refine Or.inl ⟨h, hr, F, pk, last, ?_, ?_, ⟨XX, H2⟩, NFr.rf R.2.2.2.2.2.2, MFr.rf B hr, fun _ _ => rfl⟩
    · rw [pX9_doElements_l35, pX9_doElements_b35, w_lt, R.2.1, w_nn, w_tg R.2.2.2.1.1, e5, if_pos (nI_le (Nat.le_refl i) (by omega)), w_lt, R.2.2.1, w_nn, w_tg R.2.2.2.2.1.1, k1]
    · rw [pX13_elements_l18, pX13_elements_b18, w_lt, pr_187_19 p2, w_nn, w_tg (st_192 S), sl_192 S, show (0 : Int32) = nI 0 from rfl, w_ix (show 0 < 1476 by decide) (by decide), nI_clamp (show 0 < 2 ^ 31 by decide), v0, if_pos (nI_le (Nat.le_refl i) (by omega))]
  | succ d ih =>
    intro i fu fu' T pk last F h hr hd hfu hfu' hT hm H
    obtain ⟨fu, rfl⟩ : ∃ w, fu = w + 1 := ⟨fu - 1, by omega⟩
    obtain ⟨fu', rfl⟩ : ∃ w, fu' = w + 1 := ⟨fu' - 1, by omega⟩
    obtain ⟨X, C, Ct, h8, hF, hbk, hl, k1, k2, hpk, h21, h10, hnm⟩ := H
    rcases el_step K S Q X hf he hk (i := i) (t := t) (T := T) (pk := pk) (last := last) (by omega) hn nb1 nb2 y1 y2 hm C Ct h8 hF (by omega) hbk hl k1 k2 hpk fu fu' with ⟨h1, hr1, k, pk1, s1, s2, s3, s4, s5, ⟨s6, s7, s8, s9⟩, s10, s11, s12⟩ | ⟨h1, hr1, c, hc, s1, s2, s3, s4, s5, s6, s7⟩
    · rw [up2_up2] at s4
      have sT := tkS_le hF i
      have hF1 : ∀ a j, tkF F f i (tkS F i) k y a j ≤ T + 13 := fun a j => tkF_le hF sT (fun hm => hbk hm k) y2 a j
      have H1 : ELin B q z op g p f ik n nb y t (i + 1) (T + 13) pk1 (nI (tk2 F f i (tkS F i) k)) G0 (tkF F f i (tkS F i) k y) h1 hr1 := by
        refine ⟨s3, s4, s5, by rw [tkF_8]; exact h8, hF1, fun hm => tkF_6 hF (hbk hm) y2, Or.inr ⟨Nat.succ_pos i, by rw [tkF_10]⟩, s8, s9, s6, fun q => ?_, fun _ => ?_, fun c b => ?_⟩
        · rcases s7 with s7 | s7
          · exact h21 (by rw [← s7]; exact q)
          · exact s7
        · rw [tkF_10]
          have l1 := tk1_le (f := f) (i := i) hF sT
          have l2 := tk2_le (f := f) (i := i) (k := k) hF sT
          have l3 : t ≤ tkS F i := by
            unfold tkS
            rw [h8]
            split
            · exact Nat.le_refl _
            · exact Nat.le_max_left _ _
          exact Nat.le_trans l3 (Nat.le_trans l1.2 l2.2)
        · have e6 : tkF F f i (tkS F i) k y 6 b = F 6 b := by
            unfold tkF
            rw [if_neg (by decide), if_neg (by decide), if_neg (by decide), if_pos rfl, if_neg (fun w => c w.1)]
          have e3 : tkF F f i (tkS F i) k y 3 0 = F 3 0 := by
            unfold tkF
            rw [if_neg (by decide), if_neg (by decide), if_neg (by decide), if_neg (by decide)]
          rw [e6, e3]
          exact hnm c b
      have hTd : T + 13 + 13 * d = T + 13 * (d + 1) := by omega
      rcases ih (i + 1) fu fu' (T + 13) pk1 _ _ h1 hr1 (by omega) (by omega) (by omega) (by omega) (fun q => by omega) H1 with ⟨h2, hr2, F2, pk2, last2, u1, u2, u3, u4, u5, u6⟩ | ⟨h2, hr2, F2, c, i2, last2, hc, u1, u2, u3, u4, u5, u6, u7, u8, u9, u10⟩
      · rw [hTd] at u3
        exact Or.inl ⟨h2, hr2, F2, pk2, last2, s1.trans u1, s2.trans u2, u3, s10.tr u4, s11.tr u5, fun j hj => (u6 j hj).trans (s12 j hj)⟩
      · rw [hTd] at u7
        exact Or.inr ⟨h2, hr2, F2, c, i2, last2, hc, s1.trans u1, s2.trans u2, u3, u4, u5, u6, u7, u8, s10.tr u9, s11.tr u10⟩
    · refine Or.inr ⟨h1, hr1, F, c, i, last, hc, s1, s2, by omega, s3, s4, s5, fun a j => Nat.le_trans (hF a j) (Nat.le_add_right _ _), ?_, s6, s7⟩
      rcases hl with hl | hl
      · exact Or.inl hl.2
      · exact Or.inr ⟨_, by have := hF 0 10; omega, hl.2⟩
/-- a ROW to be read is MISSING: the same in both -/
def lackP (h : CT) (q : Nat) (f : Nat → Nat) : Prop := (rdD (f 0) ∧ hI h (q + 20) (f 1) = 0) ∨ (rdA (f 0) ∧ hI h (q + 20) (f 2) = 0) ∨ (rdB (f 0) ∧ hI h (q + 20) (f 3) = 0)
theorem lacks_both (K : EOK E b L xs op st bt aL aS aO) (S : Sh B g) {h hr : CT} (X : SP B q z op g p f ik n nb y h hr) (hf : FOK f) (hk : ik < 30) : (lackP h q f ∧ pX9_lacksRow E g h (B + 132) p = some 1 ∧ pX13_missesRow g hr (B + 187) (nI ik) = some 1) ∨ (¬ lackP h q f ∧ pX9_lacksRow E g h (B + 132) p = some 0 ∧ pX13_missesRow g hr (B + 187) (nI ik) = some 0) := by
  obtain ⟨R, p2, D, I, M, -⟩ := X
  have T60 := k_tag K hf.1
  obtain ⟨a0, a1, a2, a3, a4, a5, a6, a7⟩ := im_at S p2 hk M
  obtain ⟨m1, m2, m3, -⟩ := kt_m (f 0) hf.1
  have x1 := mac_missing R.2.2.2.1 hf.2.1
  have x2 := mac_missing R.2.2.2.1 hf.2.2.1
  have x3 := mac_missing R.2.2.2.1 hf.2.2.2.1
  have y1 := r_misses S p2 D hf.2.1
  have y2 := r_misses S p2 D hf.2.2.1
  have y3 := r_misses S p2 D hf.2.2.2.1
  have hc : pX9_lacksRow E g h (B + 132) p = some (if rdD (f 0) ∧ hI h (q + 20) (f 1) = 0 then 1 else if rdA (f 0) ∧ hI h (q + 20) (f 2) = 0 then 1 else if rdB (f 0) ∧ hI h (q + 20) (f 3) = 0 then 1 else 0) := by
    have b50 : pX9_lacksRow_b50 E g h (B + 132) p = some (if rdB (f 0) ∧ hI h (q + 20) (f 3) = 0 then 1 else 0) := by
      unfold pX9_lacksRow_b50 pX9_lacksRow_b76
      rw [w_tg I.1, w_lt, I.2.1, w_nn, w_tg T60, d_rB K hf.1, w_bd]
      simp only [b01, ite_not]
      by_cases c : rdB (f 0)
      · rw [if_pos c, w_lt, R.2.1, w_nn, w_tg R.2.2.2.1.1, I.2.2 3 (by decide) (by decide), x3, w_bd]
        simp only [b01, ite_not, c, true_and]
        split <;> rfl
      · rw [if_neg c, if_neg (fun q => c q.1)]
    have b25 : pX9_lacksRow_b25 E g h (B + 132) p = some (if rdA (f 0) ∧ hI h (q + 20) (f 2) = 0 then 1 else if rdB (f 0) ∧ hI h (q + 20) (f 3) = 0 then 1 else 0) := by
      unfold pX9_lacksRow_b25 pX9_lacksRow_b76
      rw [w_tg I.1, w_lt, I.2.1, w_nn, w_tg T60, d_rA K hf.1, w_bd, b50]
      simp only [b01, ite_not]
      by_cases c : rdA (f 0)
      · rw [if_pos c, w_lt, R.2.1, w_nn, w_tg R.2.2.2.1.1, I.2.2 2 (by decide) (by decide), x2, w_bd]
        simp only [b01, ite_not, c, true_and]
        by_cases e : hI h (q + 20) (f 2) = 0
        · rw [if_pos e, if_pos e]
        · rw [if_neg e, if_neg e]
      · rw [if_neg c, if_neg (show ¬ (rdA (f 0) ∧ hI h (q + 20) (f 2) = 0) from fun q => c q.1)]
    unfold pX9_lacksRow pX9_lacksRow_b76
    rw [w_tg (st_132 S), w_tg I.1, w_lt, I.2.1, w_nn, w_tg T60, d_rD K hf.1, w_bd, b25]
    simp only [b01, ite_not]
    by_cases c : rdD (f 0)
    · rw [if_pos c, w_lt, R.2.1, w_nn, w_tg R.2.2.2.1.1, I.2.2 1 (by decide) (by decide), x1, w_bd]
      simp only [b01, ite_not, c, true_and]
      by_cases e : hI h (q + 20) (f 1) = 0
      · rw [if_pos e, if_pos e]
      · rw [if_neg e, if_neg e]
    · rw [if_neg c, if_neg (show ¬ (rdD (f 0) ∧ hI h (q + 20) (f 1) = 0) from fun q => c q.1)]
  have hm : pX13_missesRow g hr (B + 187) (nI ik) = some (if rdA (f 0) ∧ hI h (q + 20) (f 2) = 0 then 1 else if rdB (f 0) ∧ hI h (q + 20) (f 3) = 0 then 1 else if rdD (f 0) ∧ hI h (q + 20) (f 1) = 0 then 1 else 0) := by
    have b47 : pX13_missesRow_b47 g hr (B + 187) (nI ik) (nI (f 0)) = some (if rdD (f 0) ∧ hI h (q + 20) (f 1) = 0 then 1 else 0) := by
      unfold pX13_missesRow_b47 pX13_missesRow_b67
      simp only [m3, ite_not]
      by_cases c : rdD (f 0)
      · rw [if_pos c, a1, w_bd, y1, w_bd]
        simp only [b01, ite_not, c, true_and]
        split <;> rfl
      · rw [if_neg c, if_neg (fun q => c q.1)]
    have b27 : pX13_missesRow_b27 g hr (B + 187) (nI ik) (nI (f 0)) = some (if rdB (f 0) ∧ hI h (q + 20) (f 3) = 0 then 1 else if rdD (f 0) ∧ hI h (q + 20) (f 1) = 0 then 1 else 0) := by
      unfold pX13_missesRow_b27 pX13_missesRow_b67
      rw [b47]
      simp only [m2, ite_not]
      by_cases c : rdB (f 0)
      · rw [if_pos c, a3, w_bd, y3, w_bd]
        simp only [b01, ite_not, c, true_and]
        by_cases e : hI h (q + 20) (f 3) = 0
        · rw [if_pos e, if_pos e]
        · rw [if_neg e, if_neg e]
      · rw [if_neg c, if_neg (show ¬ (rdB (f 0) ∧ hI h (q + 20) (f 3) = 0) from fun q => c q.1)]
    unfold pX13_missesRow pX13_missesRow_b67
    rw [w_tg (st_187 S), a0, w_bd, b27]
    simp only [m1, ite_not]
    by_cases c : rdA (f 0)
    · rw [if_pos c, a2, w_bd, y2, w_bd]
      simp only [b01, ite_not, c, true_and]
      by_cases e : hI h (q + 20) (f 2) = 0
      · rw [if_pos e, if_pos e]
      · rw [if_neg e, if_neg e]
    · rw [if_neg c, if_neg (show ¬ (rdA (f 0) ∧ hI h (q + 20) (f 2) = 0) from fun q => c q.1)]
  rw [hc, hm]
  unfold lackP
  by_cases c1 : rdD (f 0) ∧ hI h (q + 20) (f 1) = 0
  · refine Or.inl ⟨Or.inl c1, by rw [if_pos c1], ?_⟩
    by_cases c2 : rdA (f 0) ∧ hI h (q + 20) (f 2) = 0
    · rw [if_pos c2]
    · by_cases c3 : rdB (f 0) ∧ hI h (q + 20) (f 3) = 0
      · rw [if_neg c2, if_pos c3]
      · rw [if_neg c2, if_neg c3, if_pos c1]
  · by_cases c2 : rdA (f 0) ∧ hI h (q + 20) (f 2) = 0
    · exact Or.inl ⟨Or.inr (Or.inl c2), by rw [if_neg c1, if_pos c2], by rw [if_pos c2]⟩
    · by_cases c3 : rdB (f 0) ∧ hI h (q + 20) (f 3) = 0
      · exact Or.inl ⟨Or.inr (Or.inr c3), by rw [if_neg c1, if_neg c2, if_pos c3], by rw [if_neg c2, if_pos c3]⟩
      · exact Or.inr ⟨fun w => w.elim c1 fun w => w.elim c2 c3, by rw [if_neg c1, if_neg c2, if_neg c3], by rw [if_neg c2, if_neg c3, if_neg c1]⟩
end ELA
