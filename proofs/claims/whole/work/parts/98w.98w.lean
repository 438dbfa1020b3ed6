/-! the reference reads one INSTRUCTION -/
section RCD
variable {B b L : Nat} {g : MT} {h h' h0 h1 h2 : CT} {tp : Nat → Int32} {n p w m k0 : Nat} {wi : Int32} {ins : Bool} {fO : CT → Nat → Int32 → Option CT}
/-- what a PROGRAM's reading leaves alone -/
def HFr (B : Nat) (h h' : CT) : Prop := hR h' = hR h ∧ (∀ a, a ≠ B + 187 → a ≠ B + 192 → Eqa h h' a) ∧ (∀ k, ¬ (12 ≤ k ∧ k ≤ 17) → hI h' (B + 187) k = hI h (B + 187) k) ∧ (∀ k, k ≠ 18 → hL h' (B + 187) k = hL h (B + 187) k) ∧ ∀ x, (x < 984 ∨ 1230 ≤ x) → hI h' (B + 192) x = hI h (B + 192) x
theorem HFr.rf (B : Nat) (h : CT) : HFr B h h := ⟨rfl, fun a _ _ => Eqa.rf h a, fun _ _ => rfl, fun _ _ => rfl, fun _ _ => rfl⟩
theorem HFr.tr (x : HFr B h h1) (u : HFr B h1 h2) : HFr B h h2 := ⟨u.1.trans x.1, fun a d e => (x.2.1 a d e).tr (u.2.1 a d e), fun k d => (u.2.2.1 k d).trans (x.2.2.1 k d), fun k d => (u.2.2.2.1 k d).trans (x.2.2.2.1 k d), fun y d => (u.2.2.2.2 y d).trans (x.2.2.2.2 y d)⟩
theorem VFr.f (u : VFr B h h1) : HFr B h h1 := ⟨u.1, fun a d _ => u.2.1 a d, u.2.2.1, u.2.2.2, fun y _ => by rw [(u.2.1 (B + 192) (by omega)).1]⟩
theorem GFr.f (u : GFr B w h h1) (h1' : 984 ≤ w) (h2' : w + 7 ≤ 1230) : HFr B h h1 := ⟨u.1, u.2.1, u.2.2.1, u.2.2.2.1, fun y d => u.2.2.2.2 y (by omega)⟩
theorem HFr.c (u : HFr B h h1) {x : Nat} {v : Int32} (hx : 984 ≤ x ∧ x < 1230) : HFr B h (sI h1 (B + 192) x v) := ⟨u.1, fun a d e => (u.2.1 a d e).sI e, fun k d => by rw [hI_sI, if_neg (by omega)]; exact u.2.2.1 k d, u.2.2.2.1, fun y d => by rw [hI_sI, if_pos rfl, ud_n (by omega)]; exact u.2.2.2.2 y d⟩
theorem QT.rr (T : QT B g h tp n) : hR h (B + 187) 19 = some (B + 192) := pr_187_19 T.2.1
theorem r_dead {k a l2 : Int32} (D : DE B g h tp n k a) : pX13_readCode_o_b13 g fO (B + 187) wi l2 h = some h := by
  unfold pX13_readCode_o_b13 pX13_readCode_o_b43 pX13_readCode_o_b70
  rw [if_neg D.pos.2, if_neg D.pos.2, if_neg D.pos.1]
/-- the word, and what may be wrong with it -/
def hF (tp : Nat → Int32) (n p k0 m : Nat) (ins : Bool) : Int32 := if tS tp n p < n then bF tp n p k0 m ins else 2
theorem r_head (A : LV B g h tp n p) (h0 : k0 < 29) (U : ∀ k, k < 28 → (isT tp n p (nmB k) ↔ k = k0)) (row : hI h (B + 192) 989 = nI m) (hm : m ≤ 30) (hwi : wi = if ins = true then 1 else 0) (ne : ¬ (k0 = 27 ∧ ins = true)) :
    (hF tp n p k0 m ins ≠ 0 ∧ ∃ h', pX13_readCode_o g fO h (B + 187) wi = some h' ∧ DE B g h' tp n (hF tp n p k0 m ins) (nI (tS tp n p)) ∧ VFr B h h')
      ∨ (hF tp n p k0 m ins = 0 ∧ tS tp n p < n ∧ k0 < 27 ∧ m < 30 ∧ pX13_readCode_o g fO h (B + 187) wi = pX13_readCode_o_b70 g fO (B + 187) wi (nI k0) h) := by
  have S := A.1.1.1
  have cw := (m_named A.1 h0 U).1
  have kin : k0 < 27 → tS tp n p < n ∧ tK tp n p = 1 := fun hk => isT_in (nm_lt k0 (by omega)).1 ((U k0 (by omega)).mpr rfl)
  unfold pX13_readCode_o
  rw [w_tg (st_187 S), cw, w_bd]
  by_cases k27 : k0 < 27
  · obtain ⟨sn, tk⟩ := kin k27
    have nk : ¬ tK tp n p = 0 := by rw [tk]; decide
    have e : hF tp n p k0 m ins = if m = 30 then 6 else if k0 = 25 ∧ ins = true then 7 else 0 := by
      unfold hF bF
      rw [if_pos sn, if_neg nk, if_neg (by omega), if_neg (by omega)]
    rw [if_pos k27, if_pos (show (0 : Int32) ≤ nI k0 from nI_le (a := 0) (by omega) (by omega))]
    unfold pX13_readCode_o_b13
    rw [A.2, if_pos rfl, w_lt, A.1.1.rr, w_nn, w_tg (st_192 S), sl_192 S, show ix 1476 989 = ix 1476 (nI 989) from rfl, w_ix (by decide) (by decide), show Int32.toNatClampNeg 989 = 989 from rfl, row]
    by_cases m30 : m = 30
    · obtain ⟨h', q1, q2, q3⟩ := m_fail A (k := 6) (by decide)
      rw [if_pos m30] at e
      rw [if_pos (show nI m = 30 by rw [m30]; rfl), q1, w_bd]
      refine Or.inl ⟨by rw [e]; decide, h', ?_, by rw [e]; exact q2, q3⟩
      unfold pX13_readCode_o_b43 pX13_readCode_o_b70
      rw [if_neg q2.pos.2, if_neg q2.pos.1]
    · rw [if_neg m30] at e
      rw [if_neg (show ¬ nI m = 30 from fun z => m30 ((nI_eq (b := 30) (by omega) (by omega)).mp z))]
      unfold pX13_readCode_o_b43
      rw [A.2, if_pos rfl]
      by_cases k25 : k0 = 25
      · subst k25
        rw [if_pos (show nI 25 = 25 from rfl), hwi]
        cases ins with
        | true =>
          obtain ⟨h', q1, q2, q3⟩ := m_fail A (k := 7) (by decide)
          rw [if_pos ⟨rfl, rfl⟩] at e
          rw [if_pos rfl, if_neg (by decide), q1, w_bd]
          refine Or.inl ⟨by rw [e]; decide, h', ?_, by rw [e]; exact q2, q3⟩
          unfold pX13_readCode_o_b70
          rw [if_neg q2.pos.1]
        | false =>
          rw [if_neg (fun z => absurd z.2 (by decide))] at e
          rw [if_neg (show ¬ (false = true) by decide), if_pos rfl]
          exact Or.inr ⟨e, sn, k27, by omega, rfl⟩
      · rw [if_neg (fun z => k25 z.1)] at e
        rw [if_neg (show ¬ nI k0 = 25 from fun z => k25 ((nI_eq (b := 25) (by omega) (by omega)).mp z))]
        exact Or.inr ⟨e, sn, k27, by omega, rfl⟩
  · have k2 : k0 = 28 ∨ (k0 = 27 ∧ ins = false) := by
      cases ins with
      | true =>
        have n27 : ¬ k0 = 27 := fun z => ne ⟨z, rfl⟩
        exact Or.inl (by omega)
      | false => have : k0 = 28 ∨ k0 = 27 := by omega
                 exact this.imp id (fun z => ⟨z, rfl⟩)
    obtain ⟨h', q1, q2, q3⟩ := m_amiss A
    rw [if_neg k27, if_neg (by decide), q1, w_bd, r_dead q2]
    have e : hF tp n p k0 m ins = amF tp n p := by
      unfold hF bF
      by_cases sn : tS tp n p < n
      · rw [if_pos sn, amF_in sn]
        by_cases nk : tK tp n p = 0
        · rw [if_pos nk, if_pos nk]
        · rw [if_neg nk, if_neg nk, if_pos k2]
      · rw [if_neg sn, amF_out sn]
    refine Or.inl ⟨?_, h', rfl, by rw [e]; exact q2, q3⟩
    rw [e]
    unfold amF
    split <;> decide
/-- from the word to the sign -/
theorem r_code (A : LV B g h tp n p) (hk : k0 < 27) (row : hI h (B + 192) 989 = nI m) (hm : m < 30) (zr : ∀ x, 990 + 8 * m ≤ x → x < 1230 → hI h (B + 192) x = 0) :
    ∃ h', pX13_readCode_o_b70 g fO (B + 187) wi (nI k0) h = pX13_readCode_o_l140 g fO (B + 187) wi FUEL (nI k0) (nI (990 + 8 * m)) h' ∧ RS B g h' tp n (rdl tp n (0, tE tp n p, fun _ => 0) (frP k0 ++ [59])) ∧ HFr B h h' ∧ hI h' (B + 192) 989 = nI (m + 1) ∧ hI h' (B + 192) (990 + 8 * m) = nI k0
      ∧ (∀ x, x ≠ 989 → (x < 990 + 8 * m ∨ 990 + 8 * m + 7 ≤ x) → hI h' (B + 192) x = hI h (B + 192) x)
      ∧ ((rdl tp n (0, tE tp n p, fun _ => 0) (frP k0 ++ [59])).1 = 0 → ∀ y, 1 ≤ y → y ≤ 6 → hI h' (B + 192) (990 + 8 * m + y) = layv k0 (rdl tp n (0, tE tp n p, fun _ => 0) (frP k0 ++ [59])).2.2 y) := by
  have S := A.1.1.1
  have i989 : ∀ {α : Type} (k : Option α), ix 1476 989 k = k := fun k => w_ix (i := 989) (by decide) (by decide) k
  have ex : (990 + 8 * nI m : Int32) = nI (990 + 8 * m) := by rw [show (8 : Int32) = nI 8 from rfl, pk_mul, show (990 : Int32) = nI 990 from rfl, nI_add]
  have A1 : LV B g (sI h (B + 192) 989 (nI (m + 1))) tp n p := A.c
  obtain ⟨h2, q1, q2, q3⟩ := m_adv A1
  have q2' := q2.c (x := nI k0) (j := 990 + 8 * m)
  have r2 : ∀ x, hI (sI h2 (B + 192) (990 + 8 * m) (nI k0)) (B + 192) x = if x = 990 + 8 * m then nI k0 else if x = 989 then nI (m + 1) else hI h (B + 192) x := fun x => by
    rw [hI_sI, if_pos rfl]
    by_cases e : x = 990 + 8 * m
    · rw [e, ud_s, if_pos rfl]
    · rw [ud_n e, if_neg e, (q3.2.1 (B + 192) (by omega)).1, hI_sI, if_pos rfl]
      by_cases e2 : x = 989
      · rw [e2, ud_s, if_pos rfl]
      · rw [ud_n e2, if_neg e2]
  have X : SR B g (sI h2 (B + 192) (990 + 8 * m) (nI k0)) (sI h2 (B + 192) (990 + 8 * m) (nI k0)) tp n (990 + 8 * m) k0 (0, tE tp n p, fun _ => 0) := ⟨Or.inl ⟨rfl, q2'⟩, GFr.rf _ _ _, fun _ y y1 y6 => by
    rw [r2, if_neg (by omega), if_neg (by omega), zr _ (by omega) (by omega)]
    unfold layv
    repeat' split
    all_goals rfl⟩
  obtain ⟨h3, e3, R3, G3, L3⟩ := m_rest X hk (by omega)
  obtain ⟨h4, e4, R4, V4⟩ := s_sgn R3
  have er : rdl tp n (0, tE tp n p, fun _ => 0) (frP k0 ++ [59]) = stp tp n (rdl tp n (0, tE tp n p, fun _ => 0) (frP k0)) 59 := by
    unfold rdl
    rw [List.foldl_append]; rfl
  have F0 : HFr B h (sI h2 (B + 192) (990 + 8 * m) (nI k0)) := HFr.c ((HFr.c (HFr.rf B h) ⟨by omega, by omega⟩).tr q3.f) ⟨by omega, by omega⟩
  have rw4 : ∀ x, hI h4 (B + 192) x = hI h3 (B + 192) x := fun x => by rw [(V4.2.1 (B + 192) (by omega)).1]
  refine ⟨h4, ?_, by rw [er]; exact R4, (F0.tr (G3.f (by omega) (by omega))).tr V4.f, ?_, ?_, fun x x1 x2 => ?_, ?_⟩
  · have b137 : ∀ v, pX13_must g h3 (B + 187) v = some h4 → pX13_readCode_o_b137 g fO (B + 187) wi (nI k0) (nI (990 + 8 * m)) (B + 187) v h3 = pX13_readCode_o_l140 g fO (B + 187) wi FUEL (nI k0) (nI (990 + 8 * m)) h4 := fun v hv => by
      unfold pX13_readCode_o_b137
      rw [w_tg (st_187 S), hv, w_bd]
    unfold pX13_readCode_o_b70
    rw [A.2, if_pos (by decide), w_lt, A.1.1.rr, w_nn, w_tg (st_192 S), sl_192 S, i989, show Int32.toNatClampNeg 989 = 989 from rfl, row, ex, w_lt, w_lt, w_nn, w_tg (st_192 S), sl_192 S, i989, i989, w_lt, row, nI_1, q1, w_bd, w_lt, q2.1.1.rr, w_nn, w_tg (st_192 S), sl_192 S, w_ix (by omega) (by decide), w_lt, nI_clamp (by omega), e3, w_bd]
    by_cases c : hI h3 (B + 187) 14 = 3
    · rw [if_pos c] at e4 ⊢
      exact b137 1 e4
    · rw [if_neg c] at e4 ⊢
      exact b137 0 e4
  · rw [rw4, G3.2.2.2.2 989 (by omega), r2, if_neg (by omega), if_pos rfl]
  · rw [rw4, G3.2.2.2.2 _ (by omega), r2, if_pos rfl]
  · rw [rw4, G3.2.2.2.2 _ (by omega), r2, if_neg (by omega), if_neg x1]
  · rw [er]
    intro f0 y y1 y6
    have q0 : (rdl tp n (0, tE tp n p, fun _ => 0) (frP k0)).1 = 0 := Classical.byContradiction fun e => by rw [stp_f e] at f0; exact e f0
    rw [rw4, L3 q0 y y1 y6]
    rw [stp_0 q0 (by decide)] at f0 ⊢
    by_cases f : fF tp n (rdl tp n (0, tE tp n p, fun _ => 0) (frP k0)).2.1 59 = 0
    · rw [if_pos f, if_pos (by decide)]
    · rw [if_neg f] at f0
      exact absurd f0 f
/-- the end of an INSTRUCTION's reading -/
theorem r_b199 (T : QT B g h tp n) (hw : w + 7 < 1230) : pX13_readCode_o_b199 g fO (B + 187) wi (nI w) h = some (sI h (B + 192) (w + 7) (hI h (B + 192) 989)) := by
  have S := T.1
  have i989 : ∀ {α : Type} (k : Option α), ix 1476 989 k = k := fun k => w_ix (i := 989) (by decide) (by decide) k
  unfold pX13_readCode_o_b199
  rw [w_lt, w_lt, T.rr, w_nn, w_tg (st_192 S), sl_192 S, i989, w_nn, w_tg (st_192 S), sl_192 S, show (nI w + 7 : Int32) = nI (w + 7) from nI_add w 7, w_ix (by omega) (by decide), w_lt, nI_clamp (by omega), show Int32.toNatClampNeg 989 = 989 from rfl]
theorem r_fin (T : QT B g h tp n) (hk : k0 < 27) (k25 : k0 ≠ 25) (hw : w + 7 < 1230) (f : Nat) : pX13_readCode_o_l140 g fO (B + 187) wi (f + 1) (nI k0) (nI w) h = some (sI h (B + 192) (w + 7) (hI h (B + 192) 989)) := by
  have n25 : ¬ nI k0 = 25 := fun z => k25 ((nI_eq (b := 25) (by omega) (by omega)).mp z)
  rw [pX13_readCode_o_l140, pX13_readCode_o_b140, if_neg n25, pX13_readCode_o_b168, if_neg n25, r_b199 T hw]
theorem d_end (T : QT B g h tp n) : ∃ x, pX13_isEnd g h (B + 187) = some x := by
  obtain ⟨x, i1, hx⟩ := d_wrd (h := h) T.1 (pX13_spelled 101 110 100 0 0 0)
  exact ⟨x, by unfold pX13_isEnd; rw [w_tg (st_187 T.1), hx, w_bd, w_bz i1]⟩
theorem r_finD {k a : Int32} (D : DE B g h tp n k a) (hw : w + 7 < 1230) (f : Nat) : pX13_readCode_o_l140 g fO (B + 187) wi (f + 1) 25 (nI w) h = some (sI h (B + 192) (w + 7) (hI h (B + 192) 989)) := by
  obtain ⟨x, hx⟩ := d_end D.1
  have b196 : ∀ v, pX13_readCode_o_b196 g fO (B + 187) wi (nI w) (B + 187) v h = some (sI h (B + 192) (w + 7) (hI h (B + 192) 989)) := fun v => by
    unfold pX13_readCode_o_b196
    rw [w_tg (st_187 D.1.1), d_must D, w_bd, r_b199 D.1 hw]
  rw [pX13_readCode_o_l140, pX13_readCode_o_b140, if_pos rfl, if_neg D.pos.2, pX13_readCode_o_b168, if_pos rfl, hx, w_bd, d_must D, w_bd, b196, b196, ite_self]
end RCD
