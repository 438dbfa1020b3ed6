/-! the class's loop: one turn behind the word of an INSTRUCTION -/
section TRN2
variable {B b L : Nat} {E : EC} {xs : Nat → Int32} {op st bt : Nat → Nat} {aL aS aO : Nat} {g : MT} {h h' h1 h2 : CT} {tp : Nat → Int32} {n p p1 pg ci fi j i : Nat} {p2 : Int32} {opn : Option Nat}
/-- the parser stands before the token from p on, in the form fi at j; all is well till there -/
def KL (B : Nat) (st : Nat → Nat) (g : MT) (h : CT) (tp : Nat → Int32) (n p pg : Nat) (cur : Option Nat) (fi j : Nat) (opn : Option Nat) : Prop := KT B g h tp n ∧ p ≤ n ∧ hI h (B + 11) 5 = nI p ∧ hI h (B + 11) 0 = 0 ∧ hI h (B + 11) 1 = -1 ∧ hR h (B + 11) 7 = some pg ∧ hR h (B + 11) 8 = cur ∧ hR h (B + 11) 9 = some (st fi) ∧ fi < 45 ∧ hI h (B + 11) 10 = nI j ∧ hR h (B + 11) 11 = opn
/-- what a turn leaves alone -/
def WF1 (B ci : Nat) (h h' : CT) : Prop := hR h' = hR h ∧ (∀ w, w ≠ B + 11 → w ≠ ci → Eqa h h' w) ∧ (∀ k, k ≠ 0 → k ≠ 1 → k ≠ 4 → k ≠ 5 → k ≠ 6 → k ≠ 10 → hI h' (B + 11) k = hI h (B + 11) k) ∧ hL h' = hL h
theorem WF1.rf (B ci : Nat) (h : CT) : WF1 B ci h h := ⟨rfl, fun w _ _ => Eqa.rf h w, fun _ _ _ _ _ _ _ => rfl, rfl⟩
theorem WF1.tr (x : WF1 B ci h h1) (u : WF1 B ci h1 h2) : WF1 B ci h h2 := ⟨u.1.trans x.1, fun w a c => (x.2.1 w a c).tr (u.2.1 w a c), fun k a b c d e f => (u.2.2.1 k a b c d e f).trans (x.2.2.1 k a b c d e f), u.2.2.2.trans x.2.2.2⟩
theorem WF1.s (x : WF1 B ci h h1) {k : Nat} {v : Int32} (hk : k = 0 ∨ k = 1 ∨ k = 4 ∨ k = 5 ∨ k = 6 ∨ k = 10) : WF1 B ci h (sI h1 (B + 11) k v) := ⟨x.1, fun w a c => (x.2.1 w a c).sI a, fun m a b c d e f => by rw [hI_sI, if_pos rfl, ud_n (by omega)]; exact x.2.2.1 m a b c d e f, x.2.2.2⟩
theorem PFr.w (x : PFr B h h1) : WF1 B ci h h1 := ⟨x.1, fun w a _ => x.2.1 w a, fun k _ _ c d e _ => x.2.2.1 k c d e, x.2.2.2⟩
theorem KT.w (T : KT B g h tp n) (hci : ci ≠ B + 10) (x : WF1 B ci h h1) : KT B g h1 tp n := ⟨T.1, by rw [x.1]; exact T.2.1, T.2.2.1, T.2.2.2.1, by rw [(x.2.1 (B + 10) (by omega) (fun e => hci e.symm)).1]; exact T.2.2.2.2.1, by rw [x.2.2.1 3 (by decide) (by decide) (by decide) (by decide) (by decide) (by decide)]; exact T.2.2.2.2.2.1, T.2.2.2.2.2.2⟩
/-- once a fault is found the loop ends -/
theorem k_bad (T5 : gT g (B + 11) = 5) (ne : ¬ hI h (B + 11) 0 = 0) : pX6_parse_b119 E (B + 11) p1 p2 g h = some (none, g, h) := by
  unfold pX6_parse_b119 pX6_parse_b160
  rw [w_tg T5, if_neg ne, w_tg T5, if_neg ne]
theorem k_bad2 (T : KT B g h tp n) (ne : ¬ hI h (B + 11) 0 = 0) (f : Nat) (x : Int32) : pX6_parse_l64 E (B + 11) p1 p2 (f + 1) x g h = some (none, g, h) := by
  rw [pX6_parse_l64, pX6_parse_b64, w_tg T.1, k_bad T.1 ne]
  by_cases c : hI h (B + 11) 3 < x
  · rw [if_pos c]
  · rw [if_neg c, if_neg ne]
/-- the text ends within an INSTRUCTION -/
theorem k_short (K : EOK E b L xs op st bt aL aS aO) (T : KT B g h tp n) (e0 : hI h (B + 11) 0 = 0) (e9 : hR h (B + 11) 9 = some (st fi)) (hfi : fi < 45) (e10 : hI h (B + 11) 10 = nI j) (hj : j < (stB fi).length) : pX6_parse_b119 E (B + 11) p1 p2 g h = some (none, g, sI (sI h (B + 11) 0 2) (B + 11) 1 (nI n)) := by
  have T61 := (K.2.2.1 fi hfi).1
  have l7 := stb_len fi hfi
  unfold pX6_parse_b119
  rw [w_tg T.1, e0, if_pos rfl, w_lt, e9, w_nn, w_tg T61, k_len K hfi, w_bd, e10, if_pos (nI_lt hj (by omega))]
  unfold pX6_parse_b147 pX6_parse_b160
  rw [w_tg T.1, w_lt, w_lt, w_tg T.1, if_neg (by rw [hI_sI, if_pos rfl, ud_n (by decide), hI_s]; decide), hI_sI, if_pos rfl, ud_n (by decide), T.2.2.2.2.2.1]
/-- a token where the form wants c (but m) -/
theorem k_turn (K : EOK E b L xs op st bt aL aS aO) (X : KL B st g h tp n p pg (some ci) fi j opn) (tc : gT g ci = 2) (hc1 : ci ≠ B + 11) (hc2 : ci ≠ B + 10) (hj : j < (stB fi).length) {c : Int32} (ec : (stB fi).getD j 0 = c) (hc : c = 42 ∨ c = 59 ∨ c = 64 ∨ c = 102 ∨ c = 97 ∨ c = 98 ∨ c = 100 ∨ c = 115 ∨ c = 112 ∨ c = 121 ∨ c = 110 ∨ c = 118) (hi : i ≤ n) :
    ∃ h', WF1 B ci h h' ∧ ((fF tp n p c = 0 ∧ KL B st g h' tp n (tE tp n p) pg (some ci) fi (j + 1) opn ∧ (hI h' ci = if c = 42 ∨ c = 59 ∨ c = 64 ∨ c = 102 then hI h ci else ud (hI h ci) (itK c) (itV tp n p c)) ∧ ∀ f R, pX6_parse_l64 E (B + 11) p1 p2 f (nI (i + 1)) g h' = some R → gN g ≤ gN R.2.1 ∧ gU g ≤ gU R.2.1 → pX6_parse_l64 E (B + 11) p1 p2 (f + 1) (nI i) g h = some R)
      ∨ (fF tp n p c ≠ 0 ∧ hI h' (B + 11) 0 = fF tp n p c ∧ hI h' (B + 11) 1 = nI (tS tp n p) ∧ ∀ f, pX6_parse_l64 E (B + 11) p1 p2 (f + 2) (nI i) g h = some (none, g, h'))) := by
  obtain ⟨T, hp, e5, e0, e1, r7, r8, r9, hfi, e10, r11⟩ := X
  have n900 := T.2.2.2.2.2.2
  have l7 := stb_len fi hfi
  have T61 := (K.2.2.1 fi hfi).1
  obtain ⟨h4, q1, q2, q3, q4, q5⟩ := k_next T hp e5
  have T4 := T.fr q5
  have sl := tS_le (tp := tp) hp
  have el := tE_le (tp := tp) hp
  have k0 : hI h4 (B + 11) 0 = 0 := by rw [q5.2.2.1 0 (by decide) (by decide) (by decide)]; exact e0
  have k1 : hI h4 (B + 11) 1 = -1 := by rw [q5.2.2.1 1 (by decide) (by decide) (by decide)]; exact e1
  have k10 : hI h4 (B + 11) 10 = nI j := by rw [q5.2.2.1 10 (by decide) (by decide) (by decide)]; exact e10
  have s7 : hR h4 (B + 11) 7 = some pg := by rw [q5.1]; exact r7
  have s8 : hR h4 (B + 11) 8 = some ci := by rw [q5.1]; exact r8
  have s9 : hR h4 (B + 11) 9 = some (st fi) := by rw [q5.1]; exact r9
  have s11 : hR h4 (B + 11) 11 = opn := by rw [q5.1]; exact r11
  have top : ∀ f, pX6_parse_l64 E (B + 11) p1 p2 (f + 1) (nI i) g h = if tS tp n p < n then bd3 (pX6_tokenFault E g h4 (B + 11)) (fun x12 g8 h9 => gq (fun z => z.2.1) g8 (tg g8 (B + 11) 5 (lt (sI h9 (B + 11) 0 x12) fun h15 => (if (hI h15 (B + 11) 0) = 0 then pX6_parse_b110 E (B + 11) p1 p2 (pX6_parse_l64 E (B + 11) p1 p2 f) (nI i) (B + 11) (-1) g8 h15 else pX6_parse_b110 E (B + 11) p1 p2 (pX6_parse_l64 E (B + 11) p1 p2 f) (nI i) (B + 11) (hI h15 (B + 11) 4) g8 h15)))) else pX6_parse_b119 E (B + 11) p1 p2 g h4 := fun f => by
    rw [pX6_parse_l64, pX6_parse_b64, w_tg T.1, T.2.2.2.2.2.1, if_neg (show ¬ nI n < nI i from nI_nlt hi (by omega)), if_pos e0, q1, w_bd2]
    by_cases w : tS tp n p < n
    · rw [if_pos w, if_pos w, if_neg (by decide)]
    · rw [if_neg w, if_neg w, if_pos rfl]
  by_cases sn : tS tp n p < n
  · have A4 : KA B g h4 tp n p := ⟨T4, hp, sn, q2, q3, q4 sn⟩
    have A5 : KA B g (sI h4 (B + 11) 10 (nI (j + 1))) tp n p := A4.s (Or.inl rfl)
    have eF : fF tp n p c = if tK tp n p = 0 then 1 else itF tp n p c := by unfold fF; rw [if_pos sn]
    have tf : pX6_tokenFault E g h4 (B + 11) = some (if tK tp n p = 0 then (1, g, h4) else (itF tp n p c, g, itH tp n p c ci (sI h4 (B + 11) 10 (nI (j + 1))))) := by
      unfold pX6_tokenFault
      rw [w_tg T.1, q4 sn]
      by_cases w : tK tp n p = 0
      · rw [if_pos w, if_pos w]
        exact w_gq (pr := fun z : Int32 × MT × CT => z.2.1) ⟨Nat.le_refl _, Nat.le_refl _⟩
      · have b95 := k_b95 K A5 (ci := ci) s8 tc hc
        have fol : pX6_follow E g h4 (B + 11) = some (itF tp n p c, itH tp n p c ci (sI h4 (B + 11) 10 (nI (j + 1)))) := by
          unfold pX6_follow
          rw [w_tg T.1, w_lt, s9, w_nn, w_tg T61, k10, k_chr K hfi hj, w_bd2, w_lt, k10, nI_1, ec, if_neg (by rcases hc with rfl | rfl | rfl | rfl | rfl | rfl | rfl | rfl | rfl | rfl | rfl | rfl <;> decide)]
          exact b95
        rw [if_neg w, if_neg w, w_lt, s9, w_nn, w_tg T61, k_len K hfi, w_bd, k10, if_neg (nI_ge hj (by omega)), fol, w_bd2]
        exact w_gq (pr := fun z : Int32 × MT × CT => z.2.1) ⟨Nat.le_refl _, Nat.le_refl _⟩
    have step : ∀ x h9, pX6_tokenFault E g h4 (B + 11) = some (x, g, h9) → ∀ f R, pX6_parse_l64 E (B + 11) p1 p2 f (nI (i + 1)) g (sI (sI h9 (B + 11) 0 x) (B + 11) 1 (if x = 0 then -1 else hI h9 (B + 11) 4)) = some R → gN g ≤ gN R.2.1 ∧ gU g ≤ gU R.2.1 → pX6_parse_l64 E (B + 11) p1 p2 (f + 1) (nI i) g h = some R := fun x h9 e f R er br => by
      rw [top f, if_pos sn, e]
      show gq (fun z => z.2.1) g (tg g (B + 11) 5 (lt (sI h9 (B + 11) 0 x) fun h15 => _)) = some R
      rw [w_tg T.1, w_lt, hI_s]
      have b110 : ∀ v, pX6_parse_b110 E (B + 11) p1 p2 (pX6_parse_l64 E (B + 11) p1 p2 f) (nI i) (B + 11) v g (sI h9 (B + 11) 0 x) = pX6_parse_l64 E (B + 11) p1 p2 f (nI (i + 1)) g (sI (sI h9 (B + 11) 0 x) (B + 11) 1 v) := fun v => by
        unfold pX6_parse_b110
        rw [w_tg T.1, w_lt, w_lt, nI_1]
      by_cases w : x = 0
      · rw [if_pos w, b110]
        rw [if_pos w] at er
        rw [er]
        exact w_gq (pr := fun z : Option Nat × MT × CT => z.2.1) br
      · rw [if_neg w, b110, show hI (sI h9 (B + 11) 0 x) (B + 11) 4 = hI h9 (B + 11) 4 from by rw [hI_sI, if_pos rfl, ud_n (by decide)]]
        rw [if_neg w] at er
        rw [er]
        exact w_gq (pr := fun z : Option Nat × MT × CT => z.2.1) br
    -- a fault, or none
    have x4 : WF1 B ci h h4 := q5.w
    have x5 : WF1 B ci h (itH tp n p c ci (sI h4 (B + 11) 10 (nI (j + 1)))) := by
      have x6 : WF1 B ci h (sI h4 (B + 11) 10 (nI (j + 1))) := x4.s (by decide)
      unfold itH
      split
      · exact x6
      · split
        · refine ⟨x6.1, fun w a d => (x6.2.1 w a d).sI d, fun k a1 a2 a3 a4 a5 a6 => ?_, x6.2.2.2⟩
          rw [hI_sI, if_neg (fun e => hc1 e.symm)]
          exact x6.2.2.1 k a1 a2 a3 a4 a5 a6
        · exact x6
    have fieldH : ∀ k, k ≠ 10 → hI (itH tp n p c ci (sI h4 (B + 11) 10 (nI (j + 1)))) (B + 11) k = hI h4 (B + 11) k := fun k hk => by
      have : hI (itH tp n p c ci (sI h4 (B + 11) 10 (nI (j + 1)))) (B + 11) = hI (sI h4 (B + 11) 10 (nI (j + 1))) (B + 11) := by
        unfold itH
        split
        · rfl
        · split
          · rw [hI_sI, if_neg (fun e => hc1 e.symm)]
          · rfl
      rw [this, hI_sI, if_pos rfl, ud_n hk]
    by_cases f0 : fF tp n p c = 0
    · have nk : ¬ tK tp n p = 0 := fun w => by rw [eF, if_pos w] at f0; exact absurd f0 (by decide)
      have i0 : itF tp n p c = 0 := by rw [eF, if_neg nk] at f0; exact f0
      rw [if_neg nk, i0] at tf
      have st0 := step 0 _ tf
      rw [if_pos rfl] at st0
      generalize hH : itH tp n p c ci (sI h4 (B + 11) 10 (nI (j + 1))) = H at *
      have xe : WF1 B ci h (sI (sI H (B + 11) 0 0) (B + 11) 1 (-1)) := (x5.s (by decide)).s (by decide)
      have H10 : hI H (B + 11) 10 = nI (j + 1) := by
        have : hI H (B + 11) = hI (sI h4 (B + 11) 10 (nI (j + 1))) (B + 11) := by
          rw [← hH]
          unfold itH
          by_cases u : c = 42 ∨ c = 59 ∨ c = 64 ∨ c = 102
          · rw [if_pos u]
          · rw [if_neg u, if_pos i0, hI_sI, if_neg (fun e => hc1 e.symm)]
        rw [this, hI_s]
      have ff : ∀ k, k ≠ 0 → k ≠ 1 → hI (sI (sI H (B + 11) 0 0) (B + 11) 1 (-1)) (B + 11) k = hI H (B + 11) k := fun k a d => by rw [hI_sI, if_pos rfl, ud_n d, hI_sI, if_pos rfl, ud_n a]
      refine ⟨_, xe, Or.inl ⟨f0, ⟨T.w hc2 xe, el.2.1, by rw [ff 5 (by decide) (by decide), fieldH 5 (by decide)]; exact q3, by rw [hI_sI, if_pos rfl, ud_n (by decide), hI_s], by rw [hI_s], by rw [xe.1]; exact r7, by rw [xe.1]; exact r8, by rw [xe.1]; exact r9, hfi, by rw [ff 10 (by decide) (by decide)]; exact H10, by rw [xe.1]; exact r11⟩, ?_, st0⟩⟩
      have c4 : hI h4 ci = hI h ci := (q5.2.1 ci hc1).1
      rw [hI_sI, if_neg hc1, hI_sI, if_neg hc1, ← hH]
      unfold itH
      by_cases w : c = 42 ∨ c = 59 ∨ c = 64 ∨ c = 102
      · rw [if_pos w, if_pos w, hI_sI, if_neg hc1, c4]
      · rw [if_neg w, if_neg w, if_pos i0, hI_sI, if_pos rfl, hI_sI, if_neg hc1, c4]
    · obtain ⟨h9, e9, x9, f4⟩ : ∃ h9, pX6_tokenFault E g h4 (B + 11) = some (fF tp n p c, g, h9) ∧ WF1 B ci h h9 ∧ hI h9 (B + 11) 4 = nI (tS tp n p) := by
        by_cases nk : tK tp n p = 0
        · rw [if_pos nk] at tf eF
          exact ⟨h4, by rw [tf, eF], x4, q2⟩
        · rw [if_neg nk] at tf eF
          exact ⟨_, by rw [tf, eF], x5, by rw [fieldH 4 (by decide)]; exact q2⟩
      have st9 := step _ _ e9
      rw [if_neg f0] at st9
      have xe : WF1 B ci h (sI (sI h9 (B + 11) 0 (fF tp n p c)) (B + 11) 1 (hI h9 (B + 11) 4)) := (x9.s (by decide)).s (by decide)
      refine ⟨_, xe, Or.inr ⟨f0, by rw [hI_sI, if_pos rfl, ud_n (by decide), hI_s], by rw [hI_s, f4], fun f => ?_⟩⟩
      exact st9 (f + 1) _ (k_bad2 (T.w hc2 xe) (by rw [hI_sI, if_pos rfl, ud_n (by decide), hI_s]; exact f0) f _) ⟨Nat.le_refl _, Nat.le_refl _⟩
  · have eF : fF tp n p c = 2 := by unfold fF; rw [if_neg sn]
    have eS : tS tp n p = n := by omega
    refine ⟨sI (sI h4 (B + 11) 0 2) (B + 11) 1 (nI n), ((q5.w).s (by decide)).s (by decide), Or.inr ⟨by rw [eF]; decide, by rw [hI_sI, if_pos rfl, ud_n (by decide), hI_s, eF], by rw [hI_s, eS], fun f => ?_⟩⟩
    rw [top (f + 1), if_neg sn]
    exact k_short K T4 k0 s9 hfi k10 hj
end TRN2
