/-! a PROGRAM's text: its tokens; the reference finds them -/
section TOR
variable {B : Nat} {g : MT} {h h' h1 h2 : CT} {tp : Nat → Int32} {n p : Nat}
theorem byte_tab : ∀ k, k < 256 → ((Int8.ofNat k).toInt32 &&& 255 = 10) = ((Int8.ofNat k).toInt32 = 10) ∧ ((Int8.ofNat k).toInt32 &&& 255 = 32) = ((Int8.ofNat k).toInt32 = 32) ∧ ((Int8.ofNat k).toInt32 &&& 255 = 59) = (pX6_sortOf (Int8.ofNat k).toInt32 = 3) ∧ pX13_isLetter ((Int8.ofNat k).toInt32 &&& 255) = (if pX6_sortOf (Int8.ofNat k).toInt32 = 1 then 1 else 0) ∧ pX13_isDigit ((Int8.ofNat k).toInt32 &&& 255) = (if pX6_sortOf (Int8.ofNat k).toInt32 = 2 then 1 else 0)
    ∧ (pX6_sortOf (Int8.ofNat k).toInt32 = 1 ∨ pX6_sortOf (Int8.ofNat k).toInt32 = 2 → (Int8.ofNat k).toInt32 &&& 255 = (Int8.ofNat k).toInt32) := by
  have h : ∀ k, k < 256 → (decide ((Int8.ofNat k).toInt32 &&& 255 = 10) = decide ((Int8.ofNat k).toInt32 = 10)) ∧ (decide ((Int8.ofNat k).toInt32 &&& 255 = 32) = decide ((Int8.ofNat k).toInt32 = 32)) ∧ (decide ((Int8.ofNat k).toInt32 &&& 255 = 59) = decide (pX6_sortOf (Int8.ofNat k).toInt32 = 3)) := by decide +kernel
  have h2 : ∀ k, k < 256 → pX13_isLetter ((Int8.ofNat k).toInt32 &&& 255) = (if pX6_sortOf (Int8.ofNat k).toInt32 = 1 then 1 else 0) ∧ pX13_isDigit ((Int8.ofNat k).toInt32 &&& 255) = (if pX6_sortOf (Int8.ofNat k).toInt32 = 2 then 1 else 0)
    ∧ (pX6_sortOf (Int8.ofNat k).toInt32 = 1 ∨ pX6_sortOf (Int8.ofNat k).toInt32 = 2 → (Int8.ofNat k).toInt32 &&& 255 = (Int8.ofNat k).toInt32) := by decide +kernel
  intro k hk
  obtain ⟨a, b, c⟩ := h k hk
  exact ⟨propext (decide_eq_decide.mp a), propext (decide_eq_decide.mp b), propext (decide_eq_decide.mp c), h2 k hk⟩
theorem byte_all {x : Int32} (hx : isByte x) : (x &&& 255 = 10) = (x = 10) ∧ (x &&& 255 = 32) = (x = 32) ∧ (x &&& 255 = 59) = (pX6_sortOf x = 3) ∧ pX13_isLetter (x &&& 255) = (if pX6_sortOf x = 1 then 1 else 0) ∧ pX13_isDigit (x &&& 255) = (if pX6_sortOf x = 2 then 1 else 0) ∧ (pX6_sortOf x = 1 ∨ pX6_sortOf x = 2 → x &&& 255 = x) := by
  have e : Int8.ofNat x.toInt8.toBitVec.toNat = x.toInt8 := by
    refine Int8.toBitVec_inj.mp ?_
    simp
  have := byte_tab x.toInt8.toBitVec.toNat x.toInt8.toBitVec.isLt
  rw [e, hx] at this
  exact this
/-- the reference's reading alone: where it stands -/
def UFr (B : Nat) (h h' : CT) : Prop := hR h' = hR h ∧ (∀ w, w ≠ B + 187 → Eqa h h' w) ∧ (∀ k, ¬ (14 ≤ k ∧ k ≤ 17) → hI h' (B + 187) k = hI h (B + 187) k) ∧ ∀ k, k ≠ 18 → hL h' (B + 187) k = hL h (B + 187) k
theorem UFr.rf (B : Nat) (h : CT) : UFr B h h := ⟨rfl, fun w _ => Eqa.rf h w, fun _ _ => rfl, fun _ _ => rfl⟩
theorem UFr.tr (x : UFr B h h1) (u : UFr B h1 h2) : UFr B h h2 := ⟨u.1.trans x.1, fun w a => (x.2.1 w a).tr (u.2.1 w a), fun k a => (u.2.2.1 k a).trans (x.2.2.1 k a), fun k a => (u.2.2.2 k a).trans (x.2.2.2 k a)⟩
theorem UFr.s (x : UFr B h h1) {k : Nat} {v : Int32} (hk : 14 ≤ k ∧ k ≤ 17) : UFr B h (sI h1 (B + 187) k v) := ⟨x.1, fun w a => (x.2.1 w a).sI a, fun j a => by rw [hI_sI, if_pos rfl, ud_n (by omega)]; exact x.2.2.1 j a, x.2.2.2⟩
theorem UFr.l (x : UFr B h h1) {v : Int64} : UFr B h (sL h1 (B + 187) 18 v) := ⟨x.1, fun w a => (x.2.1 w a).sL a, x.2.2.1, fun j a => by rw [hL_sL, if_pos rfl, ud_n a]; exact x.2.2.2 j a⟩
/-- a text lies before the reference -/
def QT (B : Nat) (g : MT) (h : CT) (tp : Nat → Int32) (n : Nat) : Prop := Sh B g ∧ PtR B (hR h) ∧ hI h (B + 191) = tp ∧ (∀ k, isByte (tp k)) ∧ hI h (B + 187) 9 = nI n ∧ n ≤ 900
theorem QT.fr (T : QT B g h tp n) (x : UFr B h h1) : QT B g h1 tp n := ⟨T.1, by rw [x.1]; exact T.2.1, by rw [(x.2.1 (B + 191) (by omega)).1]; exact T.2.2.1, T.2.2.2.1, by rw [x.2.2.1 9 (by decide)]; exact T.2.2.2.2.1, T.2.2.2.2.2⟩
theorem m_look (T : QT B g h tp n) {j : Nat} (hj : j ≤ 1000) : pX13_look2 g h (B + 187) (nI j) = some (if j < n then tp j &&& 255 else 0) := by
  obtain ⟨S, p2, t, tb, e9, n9⟩ := T
  unfold pX13_look2
  rw [w_tg (st_187 S), e9]
  by_cases c : j < n
  · rw [if_neg (nI_ge c (by omega)), if_pos c, w_lt, pr_187_7 p2, w_nn, w_tg (st_191 S), sl_191 S, w_ix (by omega) (by decide), nI_clamp (by omega), t]
  · rw [if_pos (nI_le (by omega) (by omega)), if_neg c]
/-- a word as a number: 5 bits a letter, at most 8 -/
def wdV (tp : Nat → Int32) (s : Nat) : Nat → Int64
  | 0 => 0
  | i + 1 => if 8 ≤ i then -1 else ((wdV tp s i * 32) + (tp (s + i)).toInt64) - 96
/-- a number of at most 4 digits -/
def nmV (tp : Nat → Int32) (s : Nat) : Nat → Int32
  | 0 => 0
  | i + 1 => if 4 ≤ i then nmV tp s i else ((10 * nmV tp s i) + tp (s + i)) - 48
theorem m_skip : ∀ (d j F f : Nat) (h : CT), QT B g h tp n → hI h (B + 187) 15 = nI j → j + d = n → d ≤ F → d < f →
    ∃ h', pX13_advance_l8 g (B + 187) f h = pX13_advance_b58 g (B + 187) h' ∧ hI h' (B + 187) 15 = nI (skp tp n F j) ∧ UFr B h h' := by
  intro d
  induction d with
  | zero =>
    intro j F f h T e4 hj hF hf
    obtain ⟨f, rfl⟩ : ∃ f', f = f' + 1 := ⟨f - 1, by omega⟩
    have n900 := T.2.2.2.2.2
    refine ⟨h, ?_, ?_, UFr.rf B h⟩
    · rw [pX13_advance_l8, pX13_advance_b8, T.2.2.2.2.1, e4, if_pos (nI_le (by omega) (by omega))]
    · rw [e4]
      cases F with
      | zero => rfl
      | succ F => unfold skp; rw [if_neg (by omega)]
  | succ d ih =>
    intro j F f h T e4 hj hF hf
    obtain ⟨f, rfl⟩ : ∃ f', f = f' + 1 := ⟨f - 1, by omega⟩
    obtain ⟨F, rfl⟩ : ∃ f', F = f' + 1 := ⟨F - 1, by omega⟩
    have n900 := T.2.2.2.2.2
    obtain ⟨y1, y2, -⟩ := byte_all (T.2.2.2.1 j)
    have lk := m_look T (show j ≤ 1000 by omega)
    rw [if_pos (by omega)] at lk
    have st : pX13_advance_l8 g (B + 187) (f + 1) h = if tp j = 10 ∨ tp j = 32 then pX13_advance_l8 g (B + 187) f (sI h (B + 187) 15 (nI (j + 1))) else pX13_advance_b58 g (B + 187) h := by
      have b45 : pX13_advance_b45 g (B + 187) (pX13_advance_l8 g (B + 187) f) h = pX13_advance_l8 g (B + 187) f (sI h (B + 187) 15 (nI (j + 1))) := by
        unfold pX13_advance_b45
        rw [w_lt, e4, nI_1]
      rw [pX13_advance_l8, pX13_advance_b8, T.2.2.2.2.1, e4, if_neg (nI_ge (by omega) (by omega)), lk, w_bd]
      simp only [w_bd, b45, y1, y2]
      by_cases c : tp j = 10
      · rw [if_pos c, if_pos (Or.inl c)]
      · rw [if_neg c]
        by_cases c2 : tp j = 32
        · rw [if_pos c2, if_pos (Or.inr c2)]
        · rw [if_neg c2, if_neg (by rintro (w | w); exact c w; exact c2 w)]
    rw [st]
    unfold skp
    by_cases c : tp j = 10 ∨ tp j = 32
    · rw [if_pos c, if_pos ⟨by omega, c⟩]
      have x : UFr B h (sI h (B + 187) 15 (nI (j + 1))) := (UFr.rf B h).s (by decide)
      obtain ⟨h', q1, q2, q3⟩ := ih (j + 1) F f _ (T.fr x) (by rw [hI_s]) (by omega) (by omega) (by omega)
      exact ⟨h', q1, q2, x.tr q3⟩
    · rw [if_neg c, if_neg (fun w => c w.2)]
      exact ⟨h, rfl, e4, UFr.rf B h⟩
theorem m_word {s : Nat} : ∀ (d j F f : Nat) (h : CT), QT B g h tp n → hI h (B + 187) 15 = nI s → hI h (B + 187) 16 = nI j → s ≤ j → hL h (B + 187) 18 = wdV tp s (j - s) → j + d = n → d ≤ F → d < f →
    ∃ h', pX13_advance_l109 g (B + 187) f h = some h' ∧ hI h' (B + 187) 16 = nI (rup tp n 1 F j) ∧ hL h' (B + 187) 18 = wdV tp s (rup tp n 1 F j - s) ∧ hI h' (B + 187) 15 = nI s ∧ hI h' (B + 187) 14 = hI h (B + 187) 14 ∧ UFr B h h' := by
  intro d
  induction d with
  | zero =>
    intro j F f h T e15 e16 hs hw hj hF hf
    obtain ⟨f, rfl⟩ : ∃ f', f = f' + 1 := ⟨f - 1, by omega⟩
    have n900 := T.2.2.2.2.2
    have lk := m_look T (show j ≤ 1000 by omega)
    rw [if_neg (by omega)] at lk
    have er : rup tp n 1 F j = j := by
      cases F with
      | zero => rfl
      | succ F => unfold rup; rw [if_neg (by omega)]
    refine ⟨h, ?_, by rw [er]; exact e16, by rw [er]; exact hw, e15, rfl, UFr.rf B h⟩
    rw [pX13_advance_l109, pX13_advance_b109, e16, lk, w_bd, if_pos (by decide)]
  | succ d ih =>
    intro j F f h T e15 e16 hs hw hj hF hf
    obtain ⟨f, rfl⟩ : ∃ f', f = f' + 1 := ⟨f - 1, by omega⟩
    obtain ⟨F, rfl⟩ : ∃ f', F = f' + 1 := ⟨F - 1, by omega⟩
    have n900 := T.2.2.2.2.2
    have S := T.1
    obtain ⟨-, -, -, y4, -, y6⟩ := byte_all (T.2.2.2.1 j)
    have lk := m_look T (show j ≤ 1000 by omega)
    rw [if_pos (by omega)] at lk
    by_cases c : pX6_sortOf (tp j) = 1
    · have st : pX13_advance_l109 g (B + 187) (f + 1) h = pX13_advance_l109 g (B + 187) f (sI (sL h (B + 187) 18 (wdV tp s (j + 1 - s))) (B + 187) 16 (nI (j + 1))) := by
        have k8 : (8 ≤ hI h (B + 187) 16 - hI h (B + 187) 15) = (8 ≤ j - s) := by
          rw [e15, e16, pk_sub hs]
          exact propext (nI_leI (a := 8) (b := j - s) (by omega) (by omega))
        have b166 : ∀ v, pX13_advance_b166 g (B + 187) (pX13_advance_l109 g (B + 187) f) (B + 187) v h = pX13_advance_l109 g (B + 187) f (sI (sL h (B + 187) 18 v) (B + 187) 16 (nI (j + 1))) := fun v => by
          unfold pX13_advance_b166
          rw [w_tg (st_187 S), w_lt, w_lt, show hI (sL h (B + 187) 18 v) (B + 187) 16 = nI j from e16, nI_1]
        have ew : wdV tp s (j + 1 - s) = if 8 ≤ j - s then -1 else ((wdV tp s (j - s) * 32) + (tp j).toInt64) - 96 := by
          rw [show j + 1 - s = (j - s) + 1 by omega]
          show (if 8 ≤ j - s then -1 else _) = _
          rw [show s + (j - s) = j by omega]
        rw [pX13_advance_l109, pX13_advance_b109, e16, lk, w_bd, y4, if_pos c, if_neg (by decide), y6 (Or.inl c)]
        rw [e16] at k8
        simp only [k8, w_bd, b166, hw, ew]
        by_cases c8 : 8 ≤ j - s
        · simp only [if_pos c8]
        · simp only [if_neg c8]
      have x : UFr B h (sI (sL h (B + 187) 18 (wdV tp s (j + 1 - s))) (B + 187) 16 (nI (j + 1))) := ((UFr.rf B h).l).s (by decide)
      obtain ⟨h', q1, q2, q3, q4, q5, q6⟩ := ih (j + 1) F f _ (T.fr x) (by rw [hI_sI, if_pos rfl, ud_n (by decide)]; exact e15) (by rw [hI_s]) (by omega) (by
        show hL (sL h (B + 187) 18 _) (B + 187) 18 = _
        rw [hL_sL, if_pos rfl, ud_s]) (by omega) (by omega) (by omega)
      have er : rup tp n 1 (F + 1) j = rup tp n 1 F (j + 1) := by
        show (if j < n ∧ pX6_sortOf (tp j) = 1 then _ else _) = _
        rw [if_pos ⟨by omega, c⟩]
      rw [st, er]
      exact ⟨h', q1, q2, q3, q4, by rw [q5, hI_sI, if_pos rfl, ud_n (by decide)]; rfl, x.tr q6⟩
    · have er : rup tp n 1 (F + 1) j = j := by
        show (if j < n ∧ pX6_sortOf (tp j) = 1 then _ else _) = _
        rw [if_neg (fun w => c w.2)]
      refine ⟨h, ?_, by rw [er]; exact e16, by rw [er]; exact hw, e15, rfl, UFr.rf B h⟩
      rw [pX13_advance_l109, pX13_advance_b109, e16, lk, w_bd, y4, if_neg c, if_pos rfl]
theorem m_num {s : Nat} : ∀ (d j F f : Nat) (h : CT), QT B g h tp n → hI h (B + 187) 15 = nI s → hI h (B + 187) 16 = nI j → s ≤ j → hI h (B + 187) 17 = nmV tp s (j - s) → j + d = n → d ≤ F → d < f →
    ∃ h', pX13_advance_l194 g (B + 187) f h = some h' ∧ hI h' (B + 187) 16 = nI (rup tp n 2 F j) ∧ hI h' (B + 187) 17 = nmV tp s (rup tp n 2 F j - s) ∧ hI h' (B + 187) 15 = nI s ∧ hI h' (B + 187) 14 = (if 4 < rup tp n 2 F j - s then 4 else 2) ∧ UFr B h h' := by
  have fin : ∀ (j f : Nat) (h : CT), QT B g h tp n → hI h (B + 187) 15 = nI s → hI h (B + 187) 16 = nI j → s ≤ j → j ≤ n → (∀ x, pX13_look2 g h (B + 187) (nI j) = some x → pX13_isDigit x = 0) → hI h (B + 187) 17 = nmV tp s (j - s) →
      ∃ h', pX13_advance_l194 g (B + 187) (f + 1) h = some h' ∧ hI h' (B + 187) 16 = nI j ∧ hI h' (B + 187) 17 = nmV tp s (j - s) ∧ hI h' (B + 187) 15 = nI s ∧ hI h' (B + 187) 14 = (if 4 < j - s then 4 else 2) ∧ UFr B h h' := fun j f h T e15 e16 hs hj hx hw => by
    have n900 := T.2.2.2.2.2
    have S := T.1
    have lk := m_look T (show j ≤ 1000 by omega)
    have hx' := hx _ lk
    have k4 : (nI j - hI h (B + 187) 15 ≤ 4) = (j - s ≤ 4) := by
      rw [e15, pk_sub hs]
      exact propext (nI_leI (a := j - s) (b := 4) (by omega) (by omega))
    have b276 : ∀ v, pX13_advance_b276 g (B + 187) (B + 187) v h = some (sI h (B + 187) 14 v) := fun v => by
      unfold pX13_advance_b276
      rw [w_tg (st_187 S), w_lt]
    refine ⟨sI h (B + 187) 14 (if 4 < j - s then 4 else 2), ?_, by rw [hI_sI, if_pos rfl, ud_n (by decide)]; exact e16, by rw [hI_sI, if_pos rfl, ud_n (by decide)]; exact hw, by rw [hI_sI, if_pos rfl, ud_n (by decide)]; exact e15, by rw [hI_s], (UFr.rf B h).s (by decide)⟩
    rw [pX13_advance_l194, pX13_advance_b194, e16, lk, w_bd, if_pos hx']
    simp only [k4, b276]
    by_cases c : j - s ≤ 4
    · rw [if_pos c, if_neg (by omega)]
    · rw [if_neg c, if_pos (by omega)]
  intro d
  induction d with
  | zero =>
    intro j F f h T e15 e16 hs hw hj hF hf
    obtain ⟨f, rfl⟩ : ∃ f', f = f' + 1 := ⟨f - 1, by omega⟩
    have n900 := T.2.2.2.2.2
    have er : rup tp n 2 F j = j := by
      cases F with
      | zero => rfl
      | succ F => unfold rup; rw [if_neg (by omega)]
    rw [er]
    refine fin j f h T e15 e16 hs (by omega) (fun x hx => ?_) hw
    have lk := m_look T (show j ≤ 1000 by omega)
    rw [if_neg (by omega), hx] at lk
    cases lk
    decide
  | succ d ih =>
    intro j F f h T e15 e16 hs hw hj hF hf
    obtain ⟨f, rfl⟩ : ∃ f', f = f' + 1 := ⟨f - 1, by omega⟩
    obtain ⟨F, rfl⟩ : ∃ f', F = f' + 1 := ⟨F - 1, by omega⟩
    have n900 := T.2.2.2.2.2
    have S := T.1
    obtain ⟨-, -, -, -, y5, y6⟩ := byte_all (T.2.2.2.1 j)
    have lk := m_look T (show j ≤ 1000 by omega)
    rw [if_pos (by omega)] at lk
    by_cases c : pX6_sortOf (tp j) = 2
    · have er : rup tp n 2 (F + 1) j = rup tp n 2 F (j + 1) := by
        show (if j < n ∧ pX6_sortOf (tp j) = 2 then _ else _) = _
        rw [if_pos ⟨by omega, c⟩]
      have ew : nmV tp s (j + 1 - s) = if 4 ≤ j - s then nmV tp s (j - s) else ((10 * nmV tp s (j - s)) + tp j) - 48 := by
        rw [show j + 1 - s = (j - s) + 1 by omega]
        show (if 4 ≤ j - s then _ else _) = _
        rw [show s + (j - s) = j by omega]
      have k4 : (4 ≤ nI j - hI h (B + 187) 15) = (4 ≤ j - s) := by
        rw [e15, pk_sub hs]
        exact propext (nI_leI (a := 4) (b := j - s) (by omega) (by omega))
      have b244 : ∀ y : CT, hI y (B + 187) 16 = nI j → pX13_advance_b244 g (B + 187) (pX13_advance_l194 g (B + 187) f) y = pX13_advance_l194 g (B + 187) f (sI y (B + 187) 16 (nI (j + 1))) := fun y ey => by
        unfold pX13_advance_b244
        rw [w_lt, ey, nI_1]
      by_cases c4 : 4 ≤ j - s
      · have x : UFr B h (sI h (B + 187) 16 (nI (j + 1))) := (UFr.rf B h).s (by decide)
        obtain ⟨h', q1, q2, q3, q4, q5, q6⟩ := ih (j + 1) F f _ (T.fr x) (by rw [hI_sI, if_pos rfl, ud_n (by decide)]; exact e15) (by rw [hI_s]) (by omega) (by
          rw [hI_sI, if_pos rfl, ud_n (by decide), ew, if_pos c4]; exact hw) (by omega) (by omega) (by omega)
        rw [er]
        refine ⟨h', ?_, q2, q3, q4, q5, x.tr q6⟩
        rw [← q1, pX13_advance_l194, pX13_advance_b194, e16, lk, w_bd, y5, if_pos c, if_neg (by decide)]
        simp only [k4]
        rw [if_pos c4, b244 h e16]
      · have x : UFr B h (sI (sI h (B + 187) 17 (nmV tp s (j + 1 - s))) (B + 187) 16 (nI (j + 1))) := ((UFr.rf B h).s (by decide)).s (by decide)
        obtain ⟨h', q1, q2, q3, q4, q5, q6⟩ := ih (j + 1) F f _ (T.fr x) (by rw [hI_sI, if_pos rfl, ud_n (by decide), hI_sI, if_pos rfl, ud_n (by decide)]; exact e15) (by rw [hI_s]) (by omega) (by
          rw [hI_sI, if_pos rfl, ud_n (by decide), hI_s]) (by omega) (by omega) (by omega)
        rw [er]
        refine ⟨h', ?_, q2, q3, q4, q5, x.tr q6⟩
        rw [← q1, pX13_advance_l194, pX13_advance_b194, e16, lk, w_bd, y5, if_pos c, if_neg (by decide)]
        simp only [k4]
        rw [if_neg c4, w_bd, y6 (Or.inr c), hw, w_lt, b244 _ (by rw [hI_sI, if_pos rfl, ud_n (by decide)]; exact e16), ew, if_neg c4]
    · have er : rup tp n 2 (F + 1) j = j := by
        show (if j < n ∧ pX6_sortOf (tp j) = 2 then _ else _) = _
        rw [if_neg (fun w => c w.2)]
      rw [er]
      refine fin j f h T e15 e16 hs (by omega) (fun x hx => ?_) hw
      rw [hx] at lk
      cases lk
      rw [y5, if_neg c]
/-- what the reference calls it -/
def rT (tp : Nat → Int32) (n p : Nat) : Int32 := if tS tp n p < n then (if tK tp n p = 0 then 4 else tK tp n p) else 0
theorem m_next (T : QT B g h tp n) (hp : p ≤ n) (e16 : hI h (B + 187) 16 = nI p) : ∃ h', pX13_advance g h (B + 187) = some h' ∧ hI h' (B + 187) 15 = nI (tS tp n p) ∧ hI h' (B + 187) 16 = nI (tE tp n p) ∧ hI h' (B + 187) 14 = rT tp n p ∧ (rT tp n p = 1 → hL h' (B + 187) 18 = wdV tp (tS tp n p) (tE tp n p - tS tp n p)) ∧ (rT tp n p = 2 → hI h' (B + 187) 17 = nmV tp (tS tp n p) (tE tp n p - tS tp n p)) ∧ UFr B h h' := by
  have S := T.1
  have n900 := T.2.2.2.2.2
  have fu : 1001 < FUEL := by decide
  have x0 : UFr B h (sI h (B + 187) 15 (nI p)) := (UFr.rf B h).s (by decide)
  obtain ⟨h1, q1, q2, q3⟩ := m_skip (n - p) p 1000 FUEL _ (T.fr x0) (by rw [hI_s]) (by omega) (by omega) (by omega)
  change hI h1 (B + 187) 15 = nI (tS tp n p) at q2
  have sl := tS_le (tp := tp) hp
  have el := tE_le (tp := tp) hp
  have top : pX13_advance g h (B + 187) = pX13_advance_b58 g (B + 187) h1 := by
    unfold pX13_advance
    rw [w_tg (st_187 S), w_lt, e16]
    exact q1
  have x1 : UFr B h (sI h1 (B + 187) 16 (nI (tS tp n p))) := (x0.tr q3).s (by decide)
  have T2 := T.fr x1
  have f15 : hI (sI h1 (B + 187) 16 (nI (tS tp n p))) (B + 187) 15 = nI (tS tp n p) := by rw [hI_sI, if_pos rfl, ud_n (by decide)]; exact q2
  have f16 : hI (sI h1 (B + 187) 16 (nI (tS tp n p))) (B + 187) 16 = nI (tS tp n p) := by rw [hI_s]
  rw [top]
  unfold pX13_advance_b58
  rw [w_lt, q2, f15, T2.2.2.2.2.1]
  by_cases c : tS tp n p < n
  · obtain ⟨-, -, y3, y4, y5, -⟩ := byte_all (T.2.2.2.1 (tS tp n p))
    have lk := m_look T2 (show tS tp n p ≤ 1000 by omega)
    rw [if_pos c] at lk
    rw [if_pos (nI_lt c (by omega)), lk, w_bd, y4, y5]
    generalize hs : pX6_sortOf (tp (tS tp n p)) = s at y3
    have n01 : ¬ (1 : Int32) = 0 := by decide
    rcases (by rw [← hs]; exact srt_cases _ : s = 0 ∨ s = 1 ∨ s = 2 ∨ s = 3) with rfl | rfl | rfl | rfl
    · have eE : tE tp n p = tS tp n p + 1 := by unfold tE; rw [if_pos c, hs, if_neg (by decide)]
      have eK : tK tp n p = 0 := by unfold tK; rw [hs, if_neg (fun w => absurd w.1 (by decide))]
      have eT : rT tp n p = 4 := by unfold rT; rw [if_pos c, eK, if_pos rfl]
      simp only [y3]
      rw [if_pos (show (if (0 : Int32) = 1 then (1 : Int32) else 0) = 0 by decide), if_pos (show (if (0 : Int32) = 2 then (1 : Int32) else 0) = 0 by decide), w_lt, if_neg (by decide)]
      unfold pX13_advance_b304
      rw [w_tg (st_187 S), w_lt]
      refine ⟨_, rfl, by rw [hI_sI, if_pos rfl, ud_n (by decide), hI_sI, if_pos rfl, ud_n (by decide)]; exact f15, by rw [hI_sI, if_pos rfl, ud_n (by decide), hI_s, eE, nI_1], by rw [hI_s, eT], fun w => absurd (eT.symm.trans w) (by decide), fun w => absurd (eT.symm.trans w) (by decide), (x1.s (by decide)).s (by decide)⟩
    · have eE : tE tp n p = rup tp n 1 1001 (tS tp n p) := by
        unfold tE
        rw [if_pos c, hs, if_pos (Or.inl rfl)]
        show _ = if tS tp n p < n ∧ pX6_sortOf (tp (tS tp n p)) = 1 then _ else _
        rw [if_pos ⟨c, hs⟩]
      have eK : tK tp n p = 1 := by unfold tK; rw [hs, if_neg (fun w => absurd w.1 (by decide))]
      have eT : rT tp n p = 1 := by unfold rT; rw [if_pos c, eK, if_neg (by decide)]
      have x2 : UFr B h (sL (sI (sI h1 (B + 187) 16 (nI (tS tp n p))) (B + 187) 14 1) (B + 187) 18 0) := (x1.s (by decide)).l
      obtain ⟨h', r1, r2, r3, r4, r5, r6⟩ := m_word (tp := tp) (n := n) (s := tS tp n p) (n - tS tp n p) (tS tp n p) 1001 FUEL _ (T.fr x2) (by show hI (sI (sI h1 (B + 187) 16 _) (B + 187) 14 1) (B + 187) 15 = _; rw [hI_sI, if_pos rfl, ud_n (by decide)]; exact f15) (by show hI (sI (sI h1 (B + 187) 16 _) (B + 187) 14 1) (B + 187) 16 = _; rw [hI_sI, if_pos rfl, ud_n (by decide)]; exact f16) (Nat.le_refl _) (by
        rw [Nat.sub_self]
        show hL (sL _ (B + 187) 18 0) (B + 187) 18 = 0
        rw [hL_sL, if_pos rfl, ud_s]) (by omega) (by omega) (by omega)
      rw [if_neg (show ¬ (if (1 : Int32) = 1 then (1 : Int32) else 0) = 0 by decide), w_lt, w_lt]
      refine ⟨h', r1, r4, by rw [r2, eE], ?_, fun _ => by rw [r3, eE], fun w => absurd (eT.symm.trans w) (by decide), x2.tr r6⟩
      rw [r5, eT]
      show hI (sI (sI h1 (B + 187) 16 _) (B + 187) 14 1) (B + 187) 14 = 1
      rw [hI_s]
    · have eE : tE tp n p = rup tp n 2 1001 (tS tp n p) := by
        unfold tE
        rw [if_pos c, hs, if_pos (Or.inr rfl)]
        show _ = if tS tp n p < n ∧ pX6_sortOf (tp (tS tp n p)) = 2 then _ else _
        rw [if_pos ⟨c, hs⟩]
      have eT : rT tp n p = if 4 < tE tp n p - tS tp n p then 4 else 2 := by
        unfold rT
        rw [if_pos c]
        by_cases d : 4 < tE tp n p - tS tp n p
        · have eK : tK tp n p = 0 := by unfold tK; rw [hs, if_pos ⟨rfl, d⟩]
          rw [eK, if_pos rfl, if_pos d]
        · have eK : tK tp n p = 2 := by unfold tK; rw [hs, if_neg (fun w => d w.2)]
          rw [eK, if_neg (by decide), if_neg d]
      have x2 : UFr B h (sI (sI h1 (B + 187) 16 (nI (tS tp n p))) (B + 187) 17 0) := x1.s (by decide)
      obtain ⟨h', r1, r2, r3, r4, r5, r6⟩ := m_num (tp := tp) (n := n) (s := tS tp n p) (n - tS tp n p) (tS tp n p) 1001 FUEL _ (T.fr x2) (by rw [hI_sI, if_pos rfl, ud_n (by decide)]; exact f15) (by rw [hI_sI, if_pos rfl, ud_n (by decide)]; exact f16) (Nat.le_refl _) (by
        rw [Nat.sub_self, hI_s]; rfl) (by omega) (by omega) (by omega)
      rw [if_pos (show (if (2 : Int32) = 1 then (1 : Int32) else 0) = 0 by decide), if_neg (show ¬ (if (2 : Int32) = 2 then (1 : Int32) else 0) = 0 by decide), w_lt]
      refine ⟨h', r1, r4, by rw [r2, eE], by rw [r5, eT, eE], fun w => ?_, fun _ => by rw [r3, eE], x2.tr r6⟩
      rw [eT] at w
      split at w <;> exact absurd w (by decide)
    · have eE : tE tp n p = tS tp n p + 1 := by unfold tE; rw [if_pos c, hs, if_neg (by decide)]
      have eK : tK tp n p = 3 := by unfold tK; rw [hs, if_neg (fun w => absurd w.1 (by decide))]
      have eT : rT tp n p = 3 := by unfold rT; rw [if_pos c, eK, if_neg (by decide)]
      simp only [y3]
      rw [if_pos (show (if (3 : Int32) = 1 then (1 : Int32) else 0) = 0 by decide), if_pos (show (if (3 : Int32) = 2 then (1 : Int32) else 0) = 0 by decide), w_lt, if_pos trivial]
      unfold pX13_advance_b304
      rw [w_tg (st_187 S), w_lt]
      refine ⟨_, rfl, by rw [hI_sI, if_pos rfl, ud_n (by decide), hI_sI, if_pos rfl, ud_n (by decide)]; exact f15, by rw [hI_sI, if_pos rfl, ud_n (by decide), hI_s, eE, nI_1], by rw [hI_s, eT], fun w => absurd (eT.symm.trans w) (by decide), fun w => absurd (eT.symm.trans w) (by decide), (x1.s (by decide)).s (by decide)⟩
  · have eE : tE tp n p = tS tp n p := by unfold tE; rw [if_neg c]
    have eT : rT tp n p = 0 := by unfold rT; rw [if_neg c]
    rw [if_neg (show ¬ nI (tS tp n p) < nI n from nI_nlt (by omega) (by omega)), w_lt]
    exact ⟨_, rfl, by rw [hI_sI, if_pos rfl, ud_n (by decide)]; exact f15, by rw [hI_sI, if_pos rfl, ud_n (by decide), f16, eE], by rw [hI_s, eT], fun w => absurd (eT.symm.trans w) (by decide), fun w => absurd (eT.symm.trans w) (by decide), x1.s (by decide)⟩
end TOR
