/-! a PROGRAM's text: its tokens; the class finds them -/
section TOK
variable {B : Nat} {g : MT} {h h' h1 h2 : CT} {tp : Nat → Int32} {n p : Nat}
/-- behind blanks -/
def skp (tp : Nat → Int32) (n : Nat) : Nat → Nat → Nat
  | 0, p => p
  | f + 1, p => if p < n ∧ (tp p = 10 ∨ tp p = 32) then skp tp n f (p + 1) else p
/-- behind those of one sort -/
def rup (tp : Nat → Int32) (n : Nat) (c : Int32) : Nat → Nat → Nat
  | 0, p => p
  | f + 1, p => if p < n ∧ pX6_sortOf (tp p) = c then rup tp n c f (p + 1) else p
def tS (tp : Nat → Int32) (n p : Nat) : Nat := skp tp n 1000 p
def tE (tp : Nat → Int32) (n p : Nat) : Nat := if tS tp n p < n then (if pX6_sortOf (tp (tS tp n p)) = 1 ∨ pX6_sortOf (tp (tS tp n p)) = 2 then rup tp n (pX6_sortOf (tp (tS tp n p))) 1000 (tS tp n p + 1) else tS tp n p + 1) else tS tp n p
def tK (tp : Nat → Int32) (n p : Nat) : Int32 := if pX6_sortOf (tp (tS tp n p)) = 2 ∧ 4 < tE tp n p - tS tp n p then 0 else pX6_sortOf (tp (tS tp n p))
theorem skp_le (tp : Nat → Int32) (n : Nat) : ∀ f p, p ≤ n → p ≤ skp tp n f p ∧ skp tp n f p ≤ n := by
  intro f
  induction f with
  | zero => intro p hp; exact ⟨Nat.le_refl _, hp⟩
  | succ f ih =>
    intro p hp
    unfold skp
    by_cases c : p < n ∧ (tp p = 10 ∨ tp p = 32)
    · rw [if_pos c]
      have := ih (p + 1) (by omega)
      omega
    · rw [if_neg c]; exact ⟨Nat.le_refl _, hp⟩
theorem rup_le (tp : Nat → Int32) (n : Nat) (c : Int32) : ∀ f p, p ≤ n → p ≤ rup tp n c f p ∧ rup tp n c f p ≤ n := by
  intro f
  induction f with
  | zero => intro p hp; exact ⟨Nat.le_refl _, hp⟩
  | succ f ih =>
    intro p hp
    unfold rup
    by_cases e : p < n ∧ pX6_sortOf (tp p) = c
    · rw [if_pos e]
      have := ih (p + 1) (by omega)
      omega
    · rw [if_neg e]; exact ⟨Nat.le_refl _, hp⟩
theorem rup_in (tp : Nat → Int32) (n : Nat) (c : Int32) : ∀ f p i, p ≤ i → i < rup tp n c f p → pX6_sortOf (tp i) = c := by
  intro f
  induction f with
  | zero => intro p i h1 h2; unfold rup at h2; omega
  | succ f ih =>
    intro p i h1 h2
    unfold rup at h2
    by_cases e : p < n ∧ pX6_sortOf (tp p) = c
    · rw [if_pos e] at h2
      by_cases w : i = p
      · rw [w]; exact e.2
      · exact ih (p + 1) i (by omega) h2
    · rw [if_neg e] at h2; omega
theorem tS_le (hp : p ≤ n) : p ≤ tS tp n p ∧ tS tp n p ≤ n := skp_le tp n 1000 p hp
theorem tE_le (hp : p ≤ n) : tS tp n p ≤ tE tp n p ∧ tE tp n p ≤ n ∧ (tS tp n p < n → tS tp n p < tE tp n p) := by
  have h1 := tS_le (tp := tp) hp
  unfold tE
  by_cases c : tS tp n p < n
  · rw [if_pos c]
    by_cases d : pX6_sortOf (tp (tS tp n p)) = 1 ∨ pX6_sortOf (tp (tS tp n p)) = 2
    · rw [if_pos d]
      have := rup_le tp n (pX6_sortOf (tp (tS tp n p))) 1000 (tS tp n p + 1) (by omega)
      omega
    · rw [if_neg d]; omega
  · rw [if_neg c]; omega
theorem srt_cases (x : Int32) : pX6_sortOf x = 0 ∨ pX6_sortOf x = 1 ∨ pX6_sortOf x = 2 ∨ pX6_sortOf x = 3 := by
  unfold pX6_sortOf pX6_sortOf_b14 pX6_sortOf_b28
  repeat' split
  all_goals simp
/-- the class's parser alone: where it stands -/
def PFr (B : Nat) (h h' : CT) : Prop := hR h' = hR h ∧ (∀ w, w ≠ B + 11 → Eqa h h' w) ∧ (∀ k, k ≠ 4 → k ≠ 5 → k ≠ 6 → hI h' (B + 11) k = hI h (B + 11) k) ∧ hL h' = hL h
theorem PFr.rf (B : Nat) (h : CT) : PFr B h h := ⟨rfl, fun w _ => Eqa.rf h w, fun _ _ _ _ => rfl, rfl⟩
theorem PFr.tr (x : PFr B h h1) (u : PFr B h1 h2) : PFr B h h2 := ⟨u.1.trans x.1, fun w a => (x.2.1 w a).tr (u.2.1 w a), fun k a b c => (u.2.2.1 k a b c).trans (x.2.2.1 k a b c), u.2.2.2.trans x.2.2.2⟩
theorem PFr.s (x : PFr B h h1) {k : Nat} {v : Int32} (hk : k = 4 ∨ k = 5 ∨ k = 6) : PFr B h (sI h1 (B + 11) k v) := ⟨x.1, fun w a => (x.2.1 w a).sI a, fun j a b c => by rw [hI_sI, if_pos rfl, ud_n (by omega)]; exact x.2.2.1 j a b c, x.2.2.2⟩
/-- a text lies before the class's parser -/
def KT (B : Nat) (g : MT) (h : CT) (tp : Nat → Int32) (n : Nat) : Prop := gT g (B + 11) = 5 ∧ hR h (B + 11) 2 = some (B + 10) ∧ gT g (B + 10) = 23 ∧ gL g (B + 10) = 900 ∧ hI h (B + 10) = tp ∧ hI h (B + 11) 3 = nI n ∧ n ≤ 900
theorem KT.fr (T : KT B g h tp n) (x : PFr B h h1) : KT B g h1 tp n := ⟨T.1, by rw [x.1]; exact T.2.1, T.2.2.1, T.2.2.2.1, by rw [(x.2.1 (B + 10) (by omega)).1]; exact T.2.2.2.2.1, by rw [x.2.2.1 3 (by decide) (by decide) (by decide)]; exact T.2.2.2.2.2.1, T.2.2.2.2.2.2⟩
theorem k_skip : ∀ (d j F f : Nat) (h : CT), KT B g h tp n → hI h (B + 11) 4 = nI j → j + d = n → d ≤ F → d < f →
    ∃ h', pX6_nextToken_l8 g (B + 11) f h = pX6_nextToken_b60 g (B + 11) h' ∧ hI h' (B + 11) 4 = nI (skp tp n F j) ∧ PFr B h h' := by
  intro d
  induction d with
  | zero =>
    intro j F f h T e4 hj hF hf
    obtain ⟨f, rfl⟩ : ∃ f', f = f' + 1 := ⟨f - 1, by omega⟩
    have n900 := T.2.2.2.2.2.2
    refine ⟨h, ?_, ?_, PFr.rf B h⟩
    · rw [pX6_nextToken_l8, pX6_nextToken_b8, T.2.2.2.2.2.1, e4, if_pos (nI_le (by omega) (by omega))]
    · rw [e4]
      cases F with
      | zero => rfl
      | succ F => unfold skp; rw [if_neg (by omega)]
  | succ d ih =>
    intro j F f h T e4 hj hF hf
    obtain ⟨f, rfl⟩ : ∃ f', f = f' + 1 := ⟨f - 1, by omega⟩
    obtain ⟨F, rfl⟩ : ∃ f', F = f' + 1 := ⟨F - 1, by omega⟩
    obtain ⟨t1, t2, t3, t4, t5, t6, n900⟩ := id T
    have st : pX6_nextToken_l8 g (B + 11) (f + 1) h = if tp j = 10 ∨ tp j = 32 then pX6_nextToken_l8 g (B + 11) f (sI h (B + 11) 4 (nI (j + 1))) else pX6_nextToken_b60 g (B + 11) h := by
      have b47 : pX6_nextToken_b47 g (B + 11) (pX6_nextToken_l8 g (B + 11) f) h = pX6_nextToken_l8 g (B + 11) f (sI h (B + 11) 4 (nI (j + 1))) := by
        unfold pX6_nextToken_b47
        rw [w_lt, e4, nI_1]
      rw [pX6_nextToken_l8, pX6_nextToken_b8, t6, e4, if_neg (nI_ge (by omega) (by omega))]
      simp only [w_lt, t2, w_nn, w_tg t3, t4, w_ix (show j < 900 by omega) (show 900 < 2 ^ 31 by decide), nI_clamp (show j < 2 ^ 31 by omega), t5, b47]
      by_cases c : tp j = 10
      · rw [if_pos c, if_pos (Or.inl c)]
      · rw [if_neg c]
        by_cases c2 : tp j = 32
        · rw [if_pos c2, if_pos (Or.inr c2)]
        · rw [if_neg c2, if_neg (by rintro (w | w); exact c w; exact c2 w)]
    rw [st]
    unfold skp
    by_cases c : tp j = 10 ∨ tp j = 32
    · rw [if_pos c, if_pos ⟨by omega, c⟩]
      have x : PFr B h (sI h (B + 11) 4 (nI (j + 1))) := (PFr.rf B h).s (Or.inl rfl)
      obtain ⟨h', q1, q2, q3⟩ := ih (j + 1) F f _ (T.fr x) (by rw [hI_s]) (by omega) (by omega) (by omega)
      exact ⟨h', q1, q2, x.tr q3⟩
    · rw [if_neg c, if_neg (fun w => c w.2)]
      exact ⟨h, rfl, e4, PFr.rf B h⟩
theorem k_run {c : Int32} (hc : c = 1 ∨ c = 2) : ∀ (d j F f : Nat) (h : CT), KT B g h tp n → hI h (B + 11) 5 = nI j → hI h (B + 11) 6 = c → j + d = n → d ≤ F → d < f →
    ∃ h', pX6_nextToken_l107 g (B + 11) f h = pX6_nextToken_b166 g (B + 11) h' ∧ hI h' (B + 11) 5 = nI (rup tp n c F j) ∧ hI h' (B + 11) 4 = hI h (B + 11) 4 ∧ hI h' (B + 11) 6 = c ∧ PFr B h h' := by
  have e107 : ∀ (k : CT → Option (Int32 × CT)) (h : CT), hI h (B + 11) 6 = c → pX6_nextToken_b107 g (B + 11) k h = pX6_nextToken_b123 g (B + 11) k h := fun k h e => by
    unfold pX6_nextToken_b107
    rw [e]
    rcases hc with rfl | rfl
    · rw [if_pos rfl]
    · rw [if_neg (by decide), if_pos rfl]
  intro d
  induction d with
  | zero =>
    intro j F f h T e5 e6 hj hF hf
    obtain ⟨f, rfl⟩ : ∃ f', f = f' + 1 := ⟨f - 1, by omega⟩
    have n900 := T.2.2.2.2.2.2
    refine ⟨h, ?_, ?_, rfl, e6, PFr.rf B h⟩
    · rw [pX6_nextToken_l107, e107 _ _ e6, pX6_nextToken_b123, T.2.2.2.2.2.1, e5, if_pos (nI_le (by omega) (by omega))]
    · rw [e5]
      cases F with
      | zero => rfl
      | succ F => unfold rup; rw [if_neg (by omega)]
  | succ d ih =>
    intro j F f h T e5 e6 hj hF hf
    obtain ⟨f, rfl⟩ : ∃ f', f = f' + 1 := ⟨f - 1, by omega⟩
    obtain ⟨F, rfl⟩ : ∃ f', F = f' + 1 := ⟨F - 1, by omega⟩
    obtain ⟨t1, t2, t3, t4, t5, t6, n900⟩ := id T
    have st : pX6_nextToken_l107 g (B + 11) (f + 1) h = if pX6_sortOf (tp j) = c then pX6_nextToken_l107 g (B + 11) f (sI h (B + 11) 5 (nI (j + 1))) else pX6_nextToken_b166 g (B + 11) h := by
      rw [pX6_nextToken_l107, e107 _ _ e6, pX6_nextToken_b123, t6, e5, if_neg (nI_ge (by omega) (by omega))]
      simp only [w_lt, t2, w_nn, w_tg t3, t4, w_ix (show j < 900 by omega) (show 900 < 2 ^ 31 by decide), nI_clamp (show j < 2 ^ 31 by omega), t5, e6, nI_1]
    rw [st]
    unfold rup
    by_cases w : pX6_sortOf (tp j) = c
    · rw [if_pos w, if_pos ⟨by omega, w⟩]
      have x : PFr B h (sI h (B + 11) 5 (nI (j + 1))) := (PFr.rf B h).s (Or.inr (Or.inl rfl))
      obtain ⟨h', q1, q2, q3, q4, q5⟩ := ih (j + 1) F f _ (T.fr x) (by rw [hI_s]) (by rw [hI_sI, if_pos rfl, ud_n (by decide)]; exact e6) (by omega) (by omega) (by omega)
      exact ⟨h', q1, q2, by rw [q3, hI_sI, if_pos rfl, ud_n (by decide)], q4, x.tr q5⟩
    · rw [if_neg w, if_neg (fun u => w u.2)]
      exact ⟨h, rfl, e5, rfl, e6, PFr.rf B h⟩
/-- the class's next token -/
theorem k_next (T : KT B g h tp n) (hp : p ≤ n) (e5 : hI h (B + 11) 5 = nI p) : ∃ h', pX6_nextToken g h (B + 11) = some (if tS tp n p < n then 1 else 0, h') ∧ hI h' (B + 11) 4 = nI (tS tp n p) ∧ hI h' (B + 11) 5 = nI (tE tp n p) ∧ (tS tp n p < n → hI h' (B + 11) 6 = tK tp n p) ∧ PFr B h h' := by
  obtain ⟨t1, t2, t3, t4, t5, t6, n900⟩ := id T
  have fu : 1000 < FUEL := by decide
  have x0 : PFr B h (sI h (B + 11) 4 (nI p)) := (PFr.rf B h).s (Or.inl rfl)
  obtain ⟨h1, q1, q2, q3⟩ := k_skip (n - p) p 1000 FUEL _ (T.fr x0) (by rw [hI_s]) (by omega) (by omega) (by omega)
  have T1 := T.fr (x0.tr q3)
  have sl := tS_le (tp := tp) hp
  have el := tE_le (tp := tp) hp
  change hI h1 (B + 11) 4 = nI (tS tp n p) at q2
  have top : pX6_nextToken g h (B + 11) = pX6_nextToken_b60 g (B + 11) h1 := by
    unfold pX6_nextToken
    rw [w_tg t1, w_lt, e5]
    exact q1
  rw [top]
  have x1 : PFr B h (sI h1 (B + 11) 5 (nI (tS tp n p))) := (x0.tr q3).s (Or.inr (Or.inl rfl))
  have T2 := T.fr x1
  have f4 : hI (sI h1 (B + 11) 5 (nI (tS tp n p))) (B + 11) 4 = nI (tS tp n p) := by rw [hI_sI, if_pos rfl, ud_n (by decide)]; exact q2
  unfold pX6_nextToken_b60
  rw [w_lt, q2, f4, T2.2.2.2.2.2.1]
  by_cases c : tS tp n p < n
  · rw [if_pos (nI_lt c (by omega)), w_lt, T2.2.1, w_nn, w_tg t3, t4, w_ix (show tS tp n p < 900 by omega) (by decide), w_lt, nI_clamp (by omega), T2.2.2.2.2.1, w_lt, if_pos c]
    generalize hs : pX6_sortOf (tp (tS tp n p)) = s
    have f5 : hI (sI (sI h1 (B + 11) 5 (nI (tS tp n p))) (B + 11) 6 s) (B + 11) 5 = nI (tS tp n p) := by rw [hI_sI, if_pos rfl, ud_n (by decide), hI_s]
    rw [f5, nI_1]
    generalize hx : sI (sI (sI h1 (B + 11) 5 (nI (tS tp n p))) (B + 11) 6 s) (B + 11) 5 (nI (tS tp n p + 1)) = x
    have x2 : PFr B h x := by rw [← hx]; exact (x1.s (Or.inr (Or.inr rfl))).s (Or.inr (Or.inl rfl))
    have x4 : hI x (B + 11) 4 = nI (tS tp n p) := by rw [← hx, hI_sI, if_pos rfl, ud_n (by decide), hI_sI, if_pos rfl, ud_n (by decide)]; exact f4
    have x5 : hI x (B + 11) 5 = nI (tS tp n p + 1) := by rw [← hx, hI_s]
    have x6 : hI x (B + 11) 6 = s := by rw [← hx, hI_sI, if_pos rfl, ud_n (by decide), hI_s]
    have b166 : ∀ y, hI y (B + 11) 4 = nI (tS tp n p) → hI y (B + 11) 5 = nI (tE tp n p) → hI y (B + 11) 6 = s → PFr B h y → ∃ h', pX6_nextToken_b166 g (B + 11) y = some (1, h') ∧ hI h' (B + 11) 4 = nI (tS tp n p) ∧ hI h' (B + 11) 5 = nI (tE tp n p) ∧ (tS tp n p < n → hI h' (B + 11) 6 = tK tp n p) ∧ PFr B h h' := fun y y4 y5 y6 py => by
      have k4 : (hI y (B + 11) 5 - hI y (B + 11) 4 ≤ 4) = (tE tp n p - tS tp n p ≤ 4) := by
        rw [y4, y5, pk_sub (by omega)]
        exact propext (nI_leI (a := _) (b := 4) (by omega) (by omega))
      unfold pX6_nextToken_b166
      rw [y6]
      unfold tK
      rw [hs]
      by_cases c2 : s = 2
      · rw [if_pos c2]
        simp only [k4]
        by_cases c3 : tE tp n p - tS tp n p ≤ 4
        · rw [if_pos c3, if_neg (by omega)]
          exact ⟨y, rfl, y4, y5, fun _ => y6, py⟩
        · rw [if_neg c3, if_pos ⟨c2, by omega⟩, w_lt]
          exact ⟨_, rfl, by rw [hI_sI, if_pos rfl, ud_n (by decide)]; exact y4, by rw [hI_sI, if_pos rfl, ud_n (by decide)]; exact y5, fun _ => by rw [hI_s], py.s (Or.inr (Or.inr rfl))⟩
      · rw [if_neg c2, if_neg (fun w => c2 w.1)]
        exact ⟨y, rfl, y4, y5, fun _ => y6, py⟩
    by_cases c12 : s = 1 ∨ s = 2
    · obtain ⟨y, r1, r2, r3, r4, r5⟩ := k_run (tp := tp) (n := n) c12 (n - (tS tp n p + 1)) (tS tp n p + 1) 1000 FUEL x (T.fr x2) x5 x6 (by omega) (by omega) (by omega)
      rw [r1]
      have eE : tE tp n p = rup tp n s 1000 (tS tp n p + 1) := by
        unfold tE
        rw [if_pos c, hs, if_pos c12]
      exact b166 y (r3.trans x4) (by rw [r2, eE]) r4 (x2.tr r5)
    · have eE : tE tp n p = tS tp n p + 1 := by
        unfold tE
        rw [if_pos c, hs, if_neg c12]
      obtain ⟨f, hf⟩ : ∃ f, FUEL = f + 1 := ⟨FUEL - 1, by omega⟩
      have e107 : pX6_nextToken_l107 g (B + 11) FUEL x = pX6_nextToken_b166 g (B + 11) x := by
        rw [hf, pX6_nextToken_l107, pX6_nextToken_b107, x6, if_neg (fun w => c12 (Or.inl w)), if_neg (fun w => c12 (Or.inr w))]
      rw [e107]
      exact b166 x x4 (by rw [x5, eE]) x6 x2
  · have eE : tE tp n p = tS tp n p := by unfold tE; rw [if_neg c]
    rw [if_neg (show ¬ nI (tS tp n p) < nI n from nI_nlt (by omega) (by omega)), if_neg c]
    exact ⟨_, rfl, f4, by rw [hI_s, eE], fun w => absurd w c, x1⟩
end TOK
