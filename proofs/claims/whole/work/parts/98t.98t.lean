/-! the reference reads all of a form -/
section FRR
variable {B b L : Nat} {g : MT} {h h' h0 h1 h2 : CT} {tp : Nat → Int32} {n p w k : Nat} {q : RQ}
/-- it stands where q says -/
def RS (B : Nat) (g : MT) (h : CT) (tp : Nat → Int32) (n : Nat) (q : RQ) : Prop := (q.1 = 0 ∧ LV B g h tp n q.2.1) ∨ (q.1 ≠ 0 ∧ DE B g h tp n q.1 (nI q.2.1))
theorem QT.c {x : Int32} {j : Nat} (T : QT B g h tp n) : QT B g (sI h (B + 192) j x) tp n := ⟨T.1, T.2.1, by rw [hI_sI, if_neg (by omega)]; exact T.2.2.1, T.2.2.2.1, by rw [hI_sI, if_neg (by omega)]; exact T.2.2.2.2.1, T.2.2.2.2.2⟩
theorem LV.c {x : Int32} {j : Nat} (A : LV B g h tp n p) : LV B g (sI h (B + 192) j x) tp n p := by
  obtain ⟨⟨T, hp, e15, e16, e14, e18, e17⟩, e12⟩ := A
  have f : hI (sI h (B + 192) j x) (B + 187) = hI h (B + 187) := by rw [hI_sI, if_neg (by omega)]
  exact ⟨⟨T.c, hp, by rw [f]; exact e15, by rw [f]; exact e16, by rw [f]; exact e14, e18, fun z => by rw [f]; exact e17 z⟩, by rw [f]; exact e12⟩
theorem DE.c {x : Int32} {j : Nat} {y a : Int32} (D : DE B g h tp n y a) : DE B g (sI h (B + 192) j x) tp n y a := by
  have f : hI (sI h (B + 192) j x) (B + 187) = hI h (B + 187) := by rw [hI_sI, if_neg (by omega)]
  exact ⟨D.1.c, by rw [f]; exact D.2.1, D.2.2.1, by rw [f]; exact D.2.2.2⟩
theorem RS.c {x : Int32} {j : Nat} (R : RS B g h tp n q) : RS B g (sI h (B + 192) j x) tp n q := R.elim (fun r => Or.inl ⟨r.1, r.2.c⟩) (fun r => Or.inr ⟨r.1, r.2.c⟩)
theorem RS.qt (R : RS B g h tp n q) : QT B g h tp n := R.elim (fun r => r.2.1.1) (fun r => r.2.1)
theorem RS.out {c : Int32} (c9 : c ≠ 109) (h0 : q.1 = 0) (O : OUT B g h' tp n q.2.1 c) : RS B g h' tp n (stp tp n q c) := by
  rw [stp_0 h0 c9]
  rcases O with ⟨f, l⟩ | ⟨f, d⟩
  · rw [if_pos f]; exact Or.inl ⟨rfl, l⟩
  · rw [if_neg f]; exact Or.inr ⟨f, d⟩
theorem stp_v {c : Int32} (c9 : c ≠ 109) (ct : ¬ (c = 42 ∨ c = 59 ∨ c = 64 ∨ c = 102)) (h0 : q.1 = 0) : (if fF tp n q.2.1 c = 0 then itV tp n q.2.1 c else 0) = if (stp tp n q c).1 = 0 then (stp tp n q c).2.2 (itK c) else 0 := by
  rw [stp_0 h0 c9]
  by_cases f : fF tp n q.2.1 c = 0
  · rw [if_pos f, if_pos f, if_pos rfl, if_neg ct]
    exact (ud_s _ _ _).symm
  · rw [if_neg f, if_neg f, if_neg f]
/-- items -/
theorem s_row (R : RS B g h tp n q) {c : Int32} (hc : c = 97 ∨ c = 98 ∨ c = 100) : ∃ h', pX13_readRow g h (B + 187) = some (if (stp tp n q c).1 = 0 then (stp tp n q c).2.2 (itK c) else 0, h') ∧ RS B g h' tp n (stp tp n q c) ∧ VFr B h h' := by
  have c9 : c ≠ 109 := by rcases hc with rfl | rfl | rfl <;> decide
  have ct : ¬ (c = 42 ∨ c = 59 ∨ c = 64 ∨ c = 102) := by rcases hc with rfl | rfl | rfl <;> decide
  rcases R with ⟨r, l⟩ | ⟨r, d⟩
  · obtain ⟨h', q1, q2, q3⟩ := m_row l hc
    exact ⟨h', by rw [q1, stp_v c9 ct r], q2 |> RS.out c9 r, q3⟩
  · rw [stp_f r, if_neg r]
    exact ⟨h, d_row d, Or.inr ⟨r, d⟩, VFr.rf B h⟩
theorem s_sca (R : RS B g h tp n q) : ∃ h', pX13_readScalar g h (B + 187) = some (if (stp tp n q 115).1 = 0 then (stp tp n q 115).2.2 (itK 115) else 0, h') ∧ RS B g h' tp n (stp tp n q 115) ∧ VFr B h h' := by
  rcases R with ⟨r, l⟩ | ⟨r, d⟩
  · obtain ⟨h', q1, q2, q3⟩ := m_sca l
    exact ⟨h', by rw [q1, stp_v (by decide) (by decide) r], q2 |> RS.out (by decide) r, q3⟩
  · rw [stp_f r, if_neg r]
    exact ⟨h, d_sca d, Or.inr ⟨r, d⟩, VFr.rf B h⟩
theorem s_cnt (R : RS B g h tp n q) {c m : Int32} (hc : c = 112 ∨ c = 121 ∨ c = 110 ∨ c = 118) (hm : m = pX6_mostFor c) : ∃ h', pX13_countOf g h (B + 187) 0 m = some (if (stp tp n q c).1 = 0 then (stp tp n q c).2.2 (itK c) else 0, h') ∧ RS B g h' tp n (stp tp n q c) ∧ VFr B h h' := by
  subst hm
  have c9 : c ≠ 109 := by rcases hc with rfl | rfl | rfl | rfl <;> decide
  have ct : ¬ (c = 42 ∨ c = 59 ∨ c = 64 ∨ c = 102) := by rcases hc with rfl | rfl | rfl | rfl <;> decide
  rcases R with ⟨r, l⟩ | ⟨r, d⟩
  · obtain ⟨h', q1, q2, q3⟩ := m_cnt l hc
    exact ⟨h', by rw [q1, stp_v c9 ct r], q2 |> RS.out c9 r, q3⟩
  · rw [stp_f r, if_neg r]
    exact ⟨h, d_cnt d _ _, Or.inr ⟨r, d⟩, VFr.rf B h⟩
theorem d_wrd (S : Sh B g) (v : Int64) : ∃ x, is01 x ∧ pX13_isWord g h (B + 187) v = some x := by
  unfold pX13_isWord
  rw [w_tg (st_187 S)]
  by_cases c : hI h (B + 187) 14 = 1
  · rw [if_pos c]
    by_cases d : lg_cmp (hL h (B + 187) 18) v = 0
    · rw [if_pos d]; exact ⟨1, is01_1, rfl⟩
    · rw [if_neg d]; exact ⟨0, is01_0, rfl⟩
  · rw [if_neg c]; exact ⟨0, is01_0, rfl⟩
theorem s_txt (R : RS B g h tp n q) {c : Int32} {i : Nat} (hc : (c = 64 ∧ i = 2) ∨ (c = 42 ∧ i = 3) ∨ (c = 102 ∧ i = 4)) (T : MT → CT → Nat → Option Int32) (h1 : q.1 = 0 → T g h (B + 187) = some (if isT tp n q.2.1 (stB i) then 1 else 0)) (h2 : ∃ x, T g h (B + 187) = some x) : ∃ x h', T g h (B + 187) = some x ∧ pX13_must g h (B + 187) x = some h' ∧ RS B g h' tp n (stp tp n q c) ∧ VFr B h h' := by
  have c9 : c ≠ 109 := by rcases hc with ⟨rfl, -⟩ | ⟨rfl, -⟩ | ⟨rfl, -⟩ <;> decide
  rcases R with ⟨r, l⟩ | ⟨r, d⟩
  · obtain ⟨h', q1, q2, q3⟩ := m_tx l hc
    exact ⟨_, h', h1 r, q1, q2 |> RS.out c9 r, q3⟩
  · obtain ⟨x, hx⟩ := h2
    rw [stp_f r]
    exact ⟨x, h, hx, d_must d x, Or.inr ⟨r, d⟩, VFr.rf B h⟩
theorem s_at (R : RS B g h tp n q) : ∃ x h', pX13_isAt g h (B + 187) = some x ∧ pX13_must g h (B + 187) x = some h' ∧ RS B g h' tp n (stp tp n q 64) ∧ VFr B h h' := s_txt R (Or.inl ⟨rfl, rfl⟩) pX13_isAt (fun r => m_isAt (R.resolve_right (fun z => z.1 r)).2.1) (by
  obtain ⟨x, i1, hx⟩ := d_wrd (h := h) R.qt.1 (pX13_spelled 97 116 0 0 0 0)
  exact ⟨x, by unfold pX13_isAt; rw [w_tg (st_187 R.qt.1), hx, w_bd, w_bz i1]⟩)
theorem s_by (R : RS B g h tp n q) : ∃ x h', pX13_isBy g h (B + 187) = some x ∧ pX13_must g h (B + 187) x = some h' ∧ RS B g h' tp n (stp tp n q 42) ∧ VFr B h h' := s_txt R (Or.inr (Or.inl ⟨rfl, rfl⟩)) pX13_isBy (fun r => m_isBy (R.resolve_right (fun z => z.1 r)).2.1) (by
  obtain ⟨x, i1, hx⟩ := d_wrd (h := h) R.qt.1 (pX13_spelled 98 121 0 0 0 0)
  exact ⟨x, by unfold pX13_isBy; rw [w_tg (st_187 R.qt.1), hx, w_bd, w_bz i1]⟩)
theorem s_of (R : RS B g h tp n q) : ∃ x h', pX13_isOf g h (B + 187) = some x ∧ pX13_must g h (B + 187) x = some h' ∧ RS B g h' tp n (stp tp n q 102) ∧ VFr B h h' := s_txt R (Or.inr (Or.inr ⟨rfl, rfl⟩)) pX13_isOf (fun r => m_isOf (R.resolve_right (fun z => z.1 r)).2.1) (by
  obtain ⟨x, i1, hx⟩ := d_wrd (h := h) R.qt.1 (pX13_spelled 111 102 0 0 0 0)
  exact ⟨x, by unfold pX13_isOf; rw [w_tg (st_187 R.qt.1), hx, w_bd, w_bz i1]⟩)
theorem s_sgn (R : RS B g h tp n q) : ∃ h', pX13_must g h (B + 187) (if hI h (B + 187) 14 = 3 then 1 else 0) = some h' ∧ RS B g h' tp n (stp tp n q 59) ∧ VFr B h h' := by
  rcases R with ⟨r, l⟩ | ⟨r, d⟩
  · obtain ⟨h', q1, q2, q3⟩ := m_sgn l
    exact ⟨h', q1, q2 |> RS.out (by decide) r, q3⟩
  · rw [stp_f r]
    exact ⟨h, d_must d _, Or.inr ⟨r, d⟩, VFr.rf B h⟩
/-- what is left alone: all but the object and the row's places w + 1 .. w + 6 -/
def GFr (B w : Nat) (h h' : CT) : Prop := hR h' = hR h ∧ (∀ a, a ≠ B + 187 → a ≠ B + 192 → Eqa h h' a) ∧ (∀ k, ¬ (12 ≤ k ∧ k ≤ 17) → hI h' (B + 187) k = hI h (B + 187) k) ∧ (∀ k, k ≠ 18 → hL h' (B + 187) k = hL h (B + 187) k) ∧ ∀ x, ¬ (w < x ∧ x < w + 7) → hI h' (B + 192) x = hI h (B + 192) x
theorem GFr.rf (B w : Nat) (h : CT) : GFr B w h h := ⟨rfl, fun a _ _ => Eqa.rf h a, fun _ _ => rfl, fun _ _ => rfl, fun _ _ => rfl⟩
theorem GFr.v (x : GFr B w h h1) (u : VFr B h1 h2) : GFr B w h h2 := ⟨u.1.trans x.1, fun a d e => (x.2.1 a d e).tr (u.2.1 a d), fun k d => (u.2.2.1 k d).trans (x.2.2.1 k d), fun k d => (u.2.2.2 k d).trans (x.2.2.2.1 k d), fun y d => by rw [(u.2.1 (B + 192) (by omega)).1]; exact x.2.2.2.2 y d⟩
theorem GFr.c (x : GFr B w h h1) {o : Nat} {v : Int32} (ho : 1 ≤ o ∧ o ≤ 6) : GFr B w h (sI h1 (B + 192) (w + o) v) := ⟨x.1, fun a d e => (x.2.1 a d e).sI e, fun k d => by rw [hI_sI, if_neg (by omega)]; exact x.2.2.1 k d, x.2.2.2.1, fun y d => by rw [hI_sI, if_pos rfl, ud_n (by omega)]; exact x.2.2.2.2 y d⟩
/-- what the row has of an INSTRUCTION of the kind k -/
def layv (k : Nat) (v : Nat → Int32) (y : Nat) : Int32 := if y = 4 then (if k = 0 ∨ k = 25 then v 7 else v 5) else if y = 5 then (if k = 3 ∨ k = 4 then v 6 else v 4) else if y = 6 then v 8 else v y
def okp (k f o : Nat) : Bool := (f == 1 && o == 1) || (f == 2 && o == 2) || (f == 3 && o == 3) || (f == 4 && o == 5 && k != 3 && k != 4) || (f == 5 && o == 4 && k != 0 && k != 25) || (f == 6 && o == 5 && (k == 3 || k == 4)) || (f == 7 && o == 4 && (k == 0 || k == 25)) || (f == 8 && o == 6)
theorem lay_ud {f o : Nat} (ok : okp k f o = true) (v : Nat → Int32) (x : Int32) {y : Nat} (h1 : 1 ≤ y) (h6 : y ≤ 6) : layv k (ud v f x) y = if y = o then x else layv k v y := by
  simp only [okp, Bool.or_eq_true, Bool.and_eq_true, beq_iff_eq, bne_iff_ne, ne_eq] at ok
  have cs : y = 1 ∨ y = 2 ∨ y = 3 ∨ y = 4 ∨ y = 5 ∨ y = 6 := by omega
  unfold layv ud
  rcases ok with ((((((⟨rfl, rfl⟩ | ⟨rfl, rfl⟩) | ⟨rfl, rfl⟩) | ⟨⟨⟨rfl, rfl⟩, k1⟩, k2⟩) | ⟨⟨⟨rfl, rfl⟩, k1⟩, k2⟩) | ⟨⟨rfl, rfl⟩, k1⟩) | ⟨⟨rfl, rfl⟩, k1⟩) | ⟨rfl, rfl⟩ <;> rcases cs with rfl | rfl | rfl | rfl | rfl | rfl <;> simp_all
theorem okp_o {f o : Nat} (ok : okp k f o = true) : 1 ≤ o ∧ o ≤ 6 := by
  simp only [okp, Bool.or_eq_true, Bool.and_eq_true, beq_iff_eq, bne_iff_ne, ne_eq] at ok
  omega
/-- the reference within a form -/
def SR (B : Nat) (g : MT) (h0 h : CT) (tp : Nat → Int32) (n w k : Nat) (q : RQ) : Prop := RS B g h tp n q ∧ GFr B w h0 h ∧ (q.1 = 0 → ∀ y, 1 ≤ y → y ≤ 6 → hI h (B + 192) (w + y) = layv k q.2.2 y)
theorem s_put {α : Type} (X : SR B g h0 h tp n w k q) {c oo : Int32} {o : Nat} (c9 : c ≠ 109) (ct : ¬ (c = 42 ∨ c = 59 ∨ c = 64 ∨ c = 102)) (eo : oo = nI o) (ok : okp k (itK c) o = true) (hw : w + 7 < 1230) (hx : ∃ h', h' = h1 ∧ RS B g h' tp n (stp tp n q c) ∧ VFr B h h') (K : CT → Option α) :
    (nn (some (B + 192)) fun a5 => (tg g a5 20 (ix (gL g a5) (nI w + oo) (lt (sI h1 a5 (Int32.toNatClampNeg (nI w + oo)) (if (stp tp n q c).1 = 0 then (stp tp n q c).2.2 (itK c) else 0)) fun h11 => K h11)))) = K (sI h1 (B + 192) (w + o) (if (stp tp n q c).1 = 0 then (stp tp n q c).2.2 (itK c) else 0)) ∧ SR B g h0 (sI h1 (B + 192) (w + o) (if (stp tp n q c).1 = 0 then (stp tp n q c).2.2 (itK c) else 0)) tp n w k (stp tp n q c) := by
  obtain ⟨h', rfl, R, V⟩ := hx
  obtain ⟨R0, G0, L0⟩ := X
  have o6 := okp_o ok
  have S := R.qt.1
  subst eo
  constructor
  · rw [w_nn, w_tg (st_192 S), sl_192 S, nI_add, w_ix (by omega) (by decide), w_lt, nI_clamp (by omega)]
  · refine ⟨R.c, (G0.v V).c o6, fun f0 y y1 y6 => ?_⟩
    rw [hI_sI, if_pos rfl]
    have q0 : q.1 = 0 := Classical.byContradiction fun e => by rw [stp_f e] at f0; exact e f0
    rw [stp_0 q0 c9] at f0 ⊢
    by_cases f : fF tp n q.2.1 c = 0
    · rw [if_pos f, if_pos rfl, if_neg ct, lay_ud ok _ _ y1 y6]
      by_cases e : y = o
      · rw [e, ud_s, if_pos rfl]
        exact ud_s _ _ _
      · rw [if_neg e, ud_n (by omega), (V.2.1 (B + 192) (by omega)).1]
        exact L0 q0 y y1 y6
    · rw [if_neg f] at f0
      exact absurd f0 f
end FRR
