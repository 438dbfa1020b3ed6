/-! the class's loop: a turn in general; the char m -/
section TRM
variable {B b L : Nat} {E : EC} {xs : Nat → Int32} {op st bt : Nat → Nat} {aL aS aO : Nat} {g : MT} {h h' h1 h2 : CT} {tp : Nat → Int32} {n p p1 pg ci fi j i : Nat} {p2 : Int32} {cur opn : Option Nat}
theorem k_step (T : KT B g h tp n) (hp : p ≤ n) (e5 : hI h (B + 11) 5 = nI p) (e0 : hI h (B + 11) 0 = 0) (hi : i ≤ n) :
    ∃ h4, PFr B h h4 ∧ KT B g h4 tp n ∧ hI h4 (B + 11) 4 = nI (tS tp n p) ∧ hI h4 (B + 11) 5 = nI (tE tp n p) ∧ (tS tp n p < n → KA B g h4 tp n p)
      ∧ (¬ tS tp n p < n → ∀ f, pX6_parse_l64 E (B + 11) p1 p2 (f + 1) (nI i) g h = pX6_parse_b119 E (B + 11) p1 p2 g h4)
      ∧ (tS tp n p < n → ∀ x g' h9 f R, pX6_tokenFault E g h4 (B + 11) = some (x, g', h9) → gT g' (B + 11) = 5 → pX6_parse_l64 E (B + 11) p1 p2 f (nI (i + 1)) g' (sI (sI h9 (B + 11) 0 x) (B + 11) 1 (if x = 0 then -1 else hI h9 (B + 11) 4)) = some R → gN g' ≤ gN R.2.1 ∧ gU g' ≤ gU R.2.1 → pX6_parse_l64 E (B + 11) p1 p2 (f + 1) (nI i) g h = some R) := by
  have n900 := T.2.2.2.2.2.2
  obtain ⟨h4, q1, q2, q3, q4, q5⟩ := k_next T hp e5
  have T4 := T.fr q5
  have sl := tS_le (tp := tp) hp
  have el := tE_le (tp := tp) hp
  have top : ∀ f, pX6_parse_l64 E (B + 11) p1 p2 (f + 1) (nI i) g h = if tS tp n p < n then bd3 (pX6_tokenFault E g h4 (B + 11)) (fun x12 g8 h9 => gq (fun z => z.2.1) g8 (tg g8 (B + 11) 5 (lt (sI h9 (B + 11) 0 x12) fun h15 => (if (hI h15 (B + 11) 0) = 0 then pX6_parse_b110 E (B + 11) p1 p2 (pX6_parse_l64 E (B + 11) p1 p2 f) (nI i) (B + 11) (-1) g8 h15 else pX6_parse_b110 E (B + 11) p1 p2 (pX6_parse_l64 E (B + 11) p1 p2 f) (nI i) (B + 11) (hI h15 (B + 11) 4) g8 h15)))) else pX6_parse_b119 E (B + 11) p1 p2 g h4 := fun f => by
    rw [pX6_parse_l64, pX6_parse_b64, w_tg T.1, T.2.2.2.2.2.1, if_neg (show ¬ nI n < nI i from nI_nlt hi (by omega)), if_pos e0, q1, w_bd2]
    by_cases w : tS tp n p < n
    · rw [if_pos w, if_pos w, if_neg (by decide)]
    · rw [if_neg w, if_neg w, if_pos rfl]
  refine ⟨h4, q5, T4, q2, q3, fun sn => ⟨T4, hp, sn, q2, q3, q4 sn⟩, fun sn f => by rw [top f, if_neg sn], fun sn x g' h9 f R e t5 er br => ?_⟩
  rw [top f, if_pos sn, e]
  show gq (fun z => z.2.1) g' (tg g' (B + 11) 5 (lt (sI h9 (B + 11) 0 x) fun h15 => _)) = some R
  rw [w_tg t5, w_lt, hI_s]
  have b110 : ∀ v, pX6_parse_b110 E (B + 11) p1 p2 (pX6_parse_l64 E (B + 11) p1 p2 f) (nI i) (B + 11) v g' (sI h9 (B + 11) 0 x) = pX6_parse_l64 E (B + 11) p1 p2 f (nI (i + 1)) g' (sI (sI h9 (B + 11) 0 x) (B + 11) 1 v) := fun v => by
    unfold pX6_parse_b110
    rw [w_tg t5, w_lt, w_lt, nI_1]
  by_cases w : x = 0
  · rw [if_pos w, b110]
    rw [if_pos w] at er
    rw [er]
    exact w_gq (pr := fun z : Option Nat × MT × CT => z.2.1) br
  · rw [if_neg w, b110, show hI (sI h9 (B + 11) 0 x) (B + 11) 4 = hI h9 (B + 11) 4 from by rw [hI_sI, if_pos rfl, ud_n (by decide)]]
    rw [if_neg w] at er
    rw [er]
    exact w_gq (pr := fun z : Option Nat × MT × CT => z.2.1) br
/-- the rest of the loop from the token i on answers R -/
def PL (E : EC) (B p1 : Nat) (p2 : Int32) (i : Nat) (g : MT) (h : CT) (R : Option Nat × MT × CT) : Prop := pX6_parse_l64 E (B + 11) p1 p2 (FUEL - i) (nI i) g h = some R ∧ gN g ≤ gN R.2.1 ∧ gU g ≤ gU R.2.1
theorem isT_in {l : List Int32} (hl : 1 ≤ l.length) (t : isT tp n p l) : tS tp n p < n ∧ tK tp n p = 1 := by
  refine ⟨Classical.byContradiction fun sn => ?_, t.1⟩
  have eE : tE tp n p = tS tp n p := by unfold tE; rw [if_neg sn]
  have := t.2.1
  omega
/-- a token where the form wants m -/
theorem k_mas (K : EOK E b L xs op st bt aL aS aO) (X : KL B st g h tp n p pg (some ci) fi j opn) (tc : gT g ci = 2) (hc1 : ci ≠ B + 11) (hc2 : ci ≠ B + 10) (ec : (stB fi).getD j 0 = 109) (ed : (stB fi).getD (j + 1) 0 = 59) (hj : j + 2 = (stB fi).length) (hi : i ≤ n) :
    ∃ h', WF1 B ci h h' ∧ ((isT tp n p (stB 1) ∧ KL B st g h' tp n (tE tp n p) pg (some ci) fi (j + 1) opn ∧ hI h' ci = ud (hI h ci) 8 1 ∧ ∀ f R, pX6_parse_l64 E (B + 11) p1 p2 f (nI (i + 1)) g h' = some R → gN g ≤ gN R.2.1 ∧ gU g ≤ gU R.2.1 → pX6_parse_l64 E (B + 11) p1 p2 (f + 1) (nI i) g h = some R)
      ∨ (¬ isT tp n p (stB 1) ∧ fF tp n p 59 = 0 ∧ KL B st g h' tp n (tE tp n p) pg (some ci) fi (j + 2) opn ∧ hI h' ci = hI h ci ∧ ∀ f R, pX6_parse_l64 E (B + 11) p1 p2 f (nI (i + 1)) g h' = some R → gN g ≤ gN R.2.1 ∧ gU g ≤ gU R.2.1 → pX6_parse_l64 E (B + 11) p1 p2 (f + 1) (nI i) g h = some R)
      ∨ (¬ isT tp n p (stB 1) ∧ fF tp n p 59 ≠ 0 ∧ hI h' (B + 11) 0 = fF tp n p 59 ∧ hI h' (B + 11) 1 = nI (tS tp n p) ∧ ∀ f, pX6_parse_l64 E (B + 11) p1 p2 (f + 2) (nI i) g h = some (none, g, h'))) := by
  obtain ⟨T, hp, e5, e0, e1, r7, r8, r9, hfi, e10, r11⟩ := X
  have n900 := T.2.2.2.2.2.2
  have l7 := stb_len fi hfi
  have T61 := (K.2.2.1 fi hfi).1
  have sl := tS_le (tp := tp) hp
  have el := tE_le (tp := tp) hp
  have m1 : 1 ≤ (stB 1).length := by decide
  obtain ⟨h4, q5, T4, q2, q3, qA, qE, qT⟩ := k_step (E := E) (p1 := p1) (p2 := p2) (i := i) T hp e5 e0 hi
  have k0 : hI h4 (B + 11) 0 = 0 := by rw [q5.2.2.1 0 (by decide) (by decide) (by decide)]; exact e0
  have k10 : hI h4 (B + 11) 10 = nI j := by rw [q5.2.2.1 10 (by decide) (by decide) (by decide)]; exact e10
  have s8 : hR h4 (B + 11) 8 = some ci := by rw [q5.1]; exact r8
  have s9 : hR h4 (B + 11) 9 = some (st fi) := by rw [q5.1]; exact r9
  have c4 : hI h4 ci = hI h ci := (q5.2.1 ci hc1).1
  by_cases sn : tS tp n p < n
  · have A4 := qA sn
    have x1 := e_x K 1 (by decide)
    have A5 : KA B g (sI h4 (B + 11) 10 (nI (j + 1))) tp n p := A4.s (Or.inl rfl)
    have A6 : KA B g (sI (sI h4 (B + 11) 10 (nI (j + 1))) (B + 11) 10 (nI (j + 2))) tp n p := A5.s (Or.inl rfl)
    have nl : ¬ nI (stB fi).length ≤ nI j := nI_ge (by omega) (by omega)
    have nl1 : ¬ nI (stB fi).length ≤ nI (j + 1) := nI_ge (by omega) (by omega)
    have s59 : pX6_follow_b95 E g (B + 11) 59 (sI (sI h4 (B + 11) 10 (nI (j + 1))) (B + 11) 10 (nI (j + 2))) = some (itF tp n p 59, sI (sI h4 (B + 11) 10 (nI (j + 1))) (B + 11) 10 (nI (j + 2))) := k_b95 K A6 (ci := ci) s8 tc (by decide)
    have b54 : pX6_follow_b54 E g (B + 11) (sI h4 (B + 11) 10 (nI (j + 1))) = some (itF tp n p 59, sI (sI h4 (B + 11) 10 (nI (j + 1))) (B + 11) 10 (nI (j + 2))) := by
      unfold pX6_follow_b54
      rw [w_lt, show hR (sI h4 (B + 11) 10 (nI (j + 1))) (B + 11) 9 = some (st fi) from s9, w_nn, w_tg T61, k_len K hfi, w_bd, hI_s, if_neg nl1, w_lt, w_nn, w_tg T61, k_chr K hfi (by omega), w_bd2, ed]
      unfold pX6_follow_b84
      rw [w_lt, hI_s, nI_1]
      exact s59
    have fol : pX6_follow E g h4 (B + 11) = if isT tp n p (stB 1) then some (0, sI (sI h4 (B + 11) 10 (nI (j + 1))) ci 8 1) else some (itF tp n p 59, sI (sI h4 (B + 11) 10 (nI (j + 1))) (B + 11) 10 (nI (j + 2))) := by
      unfold pX6_follow
      rw [w_tg T.1, w_lt, s9, w_nn, w_tg T61, k10, k_chr K hfi (by omega), w_bd2, w_lt, k10, nI_1, ec, if_pos rfl, x1, w_kR, k_txt K A5 (by decide), w_bd2]
      by_cases t : isT tp n p (stB 1)
      · rw [if_pos t, if_pos t, if_neg (by decide), w_lt, show hR (sI h4 (B + 11) 10 (nI (j + 1))) (B + 11) 8 = some ci from s8, if_neg (fun w => by cases w), w_lt, w_nn, w_tg tc, w_lt]
      · rw [if_neg t, if_neg t, if_pos rfl, b54]
    have tf : pX6_tokenFault E g h4 (B + 11) = if tK tp n p = 0 then some (1, g, h4) else if isT tp n p (stB 1) then some (0, g, sI (sI h4 (B + 11) 10 (nI (j + 1))) ci 8 1) else some (itF tp n p 59, g, sI (sI h4 (B + 11) 10 (nI (j + 1))) (B + 11) 10 (nI (j + 2))) := by
      unfold pX6_tokenFault
      rw [w_tg T.1, A4.2.2.2.2.2]
      by_cases w : tK tp n p = 0
      · rw [if_pos w, if_pos w]
        exact w_gq (pr := fun z : Int32 × MT × CT => z.2.1) ⟨Nat.le_refl _, Nat.le_refl _⟩
      · rw [if_neg w, if_neg w, w_lt, s9, w_nn, w_tg T61, k_len K hfi, w_bd, k10, if_neg nl, fol]
        by_cases t : isT tp n p (stB 1)
        · rw [if_pos t, if_pos t, w_bd2]
          exact w_gq (pr := fun z : Int32 × MT × CT => z.2.1) ⟨Nat.le_refl _, Nat.le_refl _⟩
        · rw [if_neg t, if_neg t, w_bd2]
          exact w_gq (pr := fun z : Int32 × MT × CT => z.2.1) ⟨Nat.le_refl _, Nat.le_refl _⟩
    have x4 : WF1 B ci h h4 := q5.w
    by_cases t : isT tp n p (stB 1)
    · have nk : ¬ tK tp n p = 0 := by rw [t.1]; decide
      rw [if_neg nk, if_pos t] at tf
      have st0 := fun f R => qT sn 0 g _ f R tf T.1
      rw [if_pos rfl] at st0
      have x5 : WF1 B ci h (sI h4 (B + 11) 10 (nI (j + 1))) := x4.s (by decide)
      have x6 : WF1 B ci h (sI (sI h4 (B + 11) 10 (nI (j + 1))) ci 8 1) := ⟨x5.1, fun w a d => (x5.2.1 w a d).sI d, fun k a1 a2 a3 a4 a5 a6 => by rw [hI_sI, if_neg (fun e => hc1 e.symm)]; exact x5.2.2.1 k a1 a2 a3 a4 a5 a6, x5.2.2.2⟩
      have xe : WF1 B ci h (sI (sI (sI (sI h4 (B + 11) 10 (nI (j + 1))) ci 8 1) (B + 11) 0 0) (B + 11) 1 (-1)) := (x6.s (by decide)).s (by decide)
      have H11 : ∀ k, k ≠ 0 → k ≠ 1 → hI (sI (sI (sI (sI h4 (B + 11) 10 (nI (j + 1))) ci 8 1) (B + 11) 0 0) (B + 11) 1 (-1)) (B + 11) k = hI (sI h4 (B + 11) 10 (nI (j + 1))) (B + 11) k := fun k a d => by rw [hI_sI, if_pos rfl, ud_n d, hI_sI, if_pos rfl, ud_n a, hI_sI, if_neg (fun e => hc1 e.symm)]
      refine ⟨_, xe, Or.inl ⟨t, ⟨T.w hc2 xe, el.2.1, by rw [H11 5 (by decide) (by decide), hI_sI, if_pos rfl, ud_n (by decide)]; exact q3, by rw [hI_sI, if_pos rfl, ud_n (by decide), hI_s], by rw [hI_s], by rw [xe.1]; exact r7, by rw [xe.1]; exact r8, by rw [xe.1]; exact r9, hfi, by rw [H11 10 (by decide) (by decide), hI_s], by rw [xe.1]; exact r11⟩, ?_, fun f R er br => st0 f R er br⟩⟩
      rw [hI_sI, if_neg hc1, hI_sI, if_neg hc1, hI_sI, if_pos rfl, hI_sI, if_neg hc1, c4]
    · have eF : fF tp n p 59 = if tK tp n p = 0 then 1 else itF tp n p 59 := by unfold fF; rw [if_pos sn]
      rw [if_neg t] at tf
      have x6 : WF1 B ci h (sI (sI h4 (B + 11) 10 (nI (j + 1))) (B + 11) 10 (nI (j + 2))) := (x4.s (by decide)).s (by decide)
      by_cases f0 : fF tp n p 59 = 0
      · have nk : ¬ tK tp n p = 0 := fun w => by rw [eF, if_pos w] at f0; exact absurd f0 (by decide)
        have i0 : itF tp n p 59 = 0 := by rw [eF, if_neg nk] at f0; exact f0
        rw [if_neg nk, i0] at tf
        have st0 := fun f R => qT sn 0 g _ f R tf T.1
        rw [if_pos rfl] at st0
        have xe : WF1 B ci h (sI (sI (sI (sI h4 (B + 11) 10 (nI (j + 1))) (B + 11) 10 (nI (j + 2))) (B + 11) 0 0) (B + 11) 1 (-1)) := (x6.s (by decide)).s (by decide)
        refine ⟨_, xe, Or.inr (Or.inl ⟨t, f0, ⟨T.w hc2 xe, el.2.1, by rw [hI_sI, if_pos rfl, ud_n (by decide), hI_sI, if_pos rfl, ud_n (by decide), hI_sI, if_pos rfl, ud_n (by decide), hI_sI, if_pos rfl, ud_n (by decide)]; exact q3, by rw [hI_sI, if_pos rfl, ud_n (by decide), hI_s], by rw [hI_s], by rw [xe.1]; exact r7, by rw [xe.1]; exact r8, by rw [xe.1]; exact r9, hfi, by rw [hI_sI, if_pos rfl, ud_n (by decide), hI_sI, if_pos rfl, ud_n (by decide), hI_s], by rw [xe.1]; exact r11⟩, ?_, fun f R er br => st0 f R er br⟩)⟩
        rw [hI_sI, if_neg hc1, hI_sI, if_neg hc1, hI_sI, if_neg hc1, hI_sI, if_neg hc1, c4]
      · obtain ⟨h9, e9, x9, f4⟩ : ∃ h9, pX6_tokenFault E g h4 (B + 11) = some (fF tp n p 59, g, h9) ∧ WF1 B ci h h9 ∧ hI h9 (B + 11) 4 = nI (tS tp n p) := by
          by_cases nk : tK tp n p = 0
          · rw [if_pos nk] at tf eF
            exact ⟨h4, by rw [tf, eF], x4, q2⟩
          · rw [if_neg nk] at tf eF
            exact ⟨_, by rw [tf, eF], x6, by rw [hI_sI, if_pos rfl, ud_n (by decide), hI_sI, if_pos rfl, ud_n (by decide)]; exact q2⟩
        have st9 := fun f R => qT sn _ g _ f R e9 T.1
        rw [if_neg f0] at st9
        have xe : WF1 B ci h (sI (sI h9 (B + 11) 0 (fF tp n p 59)) (B + 11) 1 (hI h9 (B + 11) 4)) := (x9.s (by decide)).s (by decide)
        refine ⟨_, xe, Or.inr (Or.inr ⟨t, f0, by rw [hI_sI, if_pos rfl, ud_n (by decide), hI_s], by rw [hI_s, f4], fun f => ?_⟩)⟩
        exact st9 (f + 1) _ (k_bad2 (T.w hc2 xe) (by rw [hI_sI, if_pos rfl, ud_n (by decide), hI_s]; exact f0) f _) ⟨Nat.le_refl _, Nat.le_refl _⟩
  · have eF : fF tp n p 59 = 2 := by unfold fF; rw [if_neg sn]
    have eS : tS tp n p = n := by omega
    have nt : ¬ isT tp n p (stB 1) := fun t => sn (isT_in m1 t).1
    refine ⟨sI (sI h4 (B + 11) 0 2) (B + 11) 1 (nI n), ((q5.w).s (by decide)).s (by decide), Or.inr (Or.inr ⟨nt, by rw [eF]; decide, by rw [hI_sI, if_pos rfl, ud_n (by decide), hI_s, eF], by rw [hI_s, eS], fun f => ?_⟩)⟩
    rw [qE sn (f + 1)]
    exact k_short K T4 k0 s9 hfi k10 (by omega)
end TRM
