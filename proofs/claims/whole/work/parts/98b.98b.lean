/-! two INSTRUCTIONS change places -/
section SWP
variable {B b L : Nat} {E : EC} {xs : Nat → Int32} {op st bt : Nat → Nat} {aL aS aO : Nat} {g : MT} {h h' h1 h2 hc hr hc' hr' : CT} {q z p pp : Nat} {π : Pg} {k n nb y t T : Nat}
def swP (π : Pg) (k : Nat) : Pg := (π.1, fun j => if j = k then π.2 (k + 1) else if j = k + 1 then π.2 k else π.2 j)
theorem dep_bar (d : depP π k (k + 1) = 0) : π.2 k 0 ≠ 25 ∧ π.2 k 0 ≠ 26 ∧ π.2 (k + 1) 0 ≠ 25 ∧ π.2 (k + 1) 0 ≠ 26 := by
  unfold depP at d
  by_cases c : π.2 k 0 = 25 ∨ π.2 k 0 = 26 ∨ π.2 (k + 1) 0 = 25 ∨ π.2 (k + 1) 0 = 26
  · rw [if_pos c] at d; exact absurd d (by decide)
  · omega
theorem swP_wf (wf : WF π) (hk : k + 1 < π.1) (d : depP π k (k + 1) = 0) : WF (swP π k) := by
  obtain ⟨a1, a2, a3, a4⟩ := dep_bar d
  have sel : ∀ j, j < π.1 → (swP π k).2 j = π.2 (k + 1) ∧ j = k ∨ (swP π k).2 j = π.2 k ∧ j = k + 1 ∨ (swP π k).2 j = π.2 j ∧ j ≠ k ∧ j ≠ k + 1 := fun j hj => by
    unfold swP
    by_cases c : j = k
    · left; exact ⟨if_pos c, c⟩
    · by_cases c2 : j = k + 1
      · right; left; exact ⟨by show (if j = k then _ else if j = k + 1 then _ else _) = _; rw [if_neg c, if_pos c2], c2⟩
      · right; right; exact ⟨by show (if j = k then _ else if j = k + 1 then _ else _) = _; rw [if_neg c, if_neg c2], c, c2⟩
  refine ⟨wf.1, fun j hj => ?_⟩
  have hj : j < π.1 := hj
  rcases sel j hj with ⟨e, e'⟩ | ⟨e, e'⟩ | ⟨e, e', e''⟩
  · obtain ⟨w0, w1, w2, w3, w4, w5, w6, w7, w8, w9, w10, w11⟩ := wf.2 (k + 1) hk
    rw [e]
    exact ⟨w0, w1, w2, w3, w4, w5, w6, w7, w8, w9, w10, fun c => absurd c a3⟩
  · obtain ⟨w0, w1, w2, w3, w4, w5, w6, w7, w8, w9, w10, w11⟩ := wf.2 k (by omega)
    rw [e]
    exact ⟨w0, w1, w2, w3, w4, w5, w6, w7, w8, w9, w10, fun c => absurd c a1⟩
  · obtain ⟨w0, w1, w2, w3, w4, w5, w6, w7, w8, w9, w10, w11⟩ := wf.2 j hj
    rw [e]
    refine ⟨w0, w1, w2, w3, w4, w5, w6, w7, w8, w9, w10, fun c => ?_⟩
    obtain ⟨u1, u2, u3⟩ := w11 c
    refine ⟨u1, u2, fun i i1 i2 => ?_⟩
    rcases sel i (by omega) with ⟨v, -⟩ | ⟨v, -⟩ | ⟨v, -, -⟩
    · rw [v]; exact a3
    · rw [v]; exact a1
    · rw [v]; exact u3 i i1 i2
theorem swP_pgm {c c' : Nat → Int32} (hk : k + 1 < π.1) (d : depP π k (k + 1) = 0) (P : PgM c 0 π) (e1 : ∀ i, i < 7 → c' (6 + 8 * k + i) = c (14 + 8 * k + i) ∧ c' (14 + 8 * k + i) = c (6 + 8 * k + i)) (e2 : ∀ w, (w < 6 + 8 * k ∨ 22 + 8 * k ≤ w) → c' w = c w) : PgM c' 0 (swP π k) := by
  obtain ⟨a1, a2, a3, a4⟩ := dep_bar d
  refine ⟨(e2 5 (by omega)).trans P.1, fun j hj => ?_⟩
  have hj : j < π.1 := hj
  have s0 : ∀ x, 0 + (6 + x) + 8 * j = 6 + 8 * j + x := fun x => by omega
  rw [show 0 + 6 + 8 * j = 6 + 8 * j + 0 by omega, show 0 + 7 + 8 * j = 6 + 8 * j + 1 by omega, show 0 + 8 + 8 * j = 6 + 8 * j + 2 by omega, show 0 + 9 + 8 * j = 6 + 8 * j + 3 by omega, show 0 + 10 + 8 * j = 6 + 8 * j + 4 by omega, show 0 + 11 + 8 * j = 6 + 8 * j + 5 by omega, show 0 + 12 + 8 * j = 6 + 8 * j + 6 by omega, show 0 + 13 + 8 * j = 6 + 8 * j + 7 by omega]
  have key : ∀ i f, i < π.1 → f = π.2 i → (∀ x, x < 7 → c' (6 + 8 * j + x) = c (6 + 8 * i + x)) → (f 0 = 25 → c' (6 + 8 * j + 7) = c (6 + 8 * i + 7)) → c' (6 + 8 * j + 0) = nI (f 0) ∧ c' (6 + 8 * j + 1) = nI (f 1) ∧ c' (6 + 8 * j + 2) = nI (f 2) ∧ c' (6 + 8 * j + 3) = nI (f 3) ∧ c' (6 + 8 * j + 4) = nI (if f 0 = 0 ∨ f 0 = 25 then f 7 else f 5) ∧ c' (6 + 8 * j + 5) = nI (if f 0 = 3 ∨ f 0 = 4 then f 6 else f 4) ∧ c' (6 + 8 * j + 6) = nI (f 8) ∧ (f 0 = 25 → c' (6 + 8 * j + 7) = nI (f 9)) := by
    intro i f hi hf ec ec7
    obtain ⟨m0, m1, m2, m3, m4, m5, m6, m7⟩ := P.2 i hi
    rw [show 0 + 6 + 8 * i = 6 + 8 * i + 0 by omega] at m0
    rw [show 0 + 7 + 8 * i = 6 + 8 * i + 1 by omega] at m1
    rw [show 0 + 8 + 8 * i = 6 + 8 * i + 2 by omega] at m2
    rw [show 0 + 9 + 8 * i = 6 + 8 * i + 3 by omega] at m3
    rw [show 0 + 10 + 8 * i = 6 + 8 * i + 4 by omega] at m4
    rw [show 0 + 11 + 8 * i = 6 + 8 * i + 5 by omega] at m5
    rw [show 0 + 12 + 8 * i = 6 + 8 * i + 6 by omega] at m6
    rw [show 0 + 13 + 8 * i = 6 + 8 * i + 7 by omega] at m7
    rw [hf] at ec7 ⊢
    exact ⟨(ec 0 (by decide)).trans m0, (ec 1 (by decide)).trans m1, (ec 2 (by decide)).trans m2, (ec 3 (by decide)).trans m3, (ec 4 (by decide)).trans m4, (ec 5 (by decide)).trans m5, (ec 6 (by decide)).trans m6, fun w => (ec7 w).trans (m7 w)⟩
  by_cases c1 : j = k
  · have ef : (swP π k).2 j = π.2 (k + 1) := by show (if j = k then _ else if j = k + 1 then _ else _) = _; rw [if_pos c1]
    refine key (k + 1) _ hk ef (fun x hx => ?_) (fun w => absurd w (by rw [ef]; exact a3))
    rw [c1, (e1 x hx).1]
    congr 1; omega
  · by_cases c2 : j = k + 1
    · have ef : (swP π k).2 j = π.2 k := by show (if j = k then _ else if j = k + 1 then _ else _) = _; rw [if_neg c1, if_pos c2]
      refine key k _ (by omega) ef (fun x hx => ?_) (fun w => absurd w (by rw [ef]; exact a1))
      rw [c2, ← (e1 x hx).2]
      congr 1; omega
    · have ef : (swP π k).2 j = π.2 j := by show (if j = k then _ else if j = k + 1 then _ else _) = _; rw [if_neg c1, if_neg c2]
      exact key j _ hj ef (fun x hx => e2 _ (by omega)) (fun w => e2 _ (by omega))
/-- the reference changes them -/
theorem m_exch (S : Sh B g) (p2 : PtR B (hR h)) (hk : k < 30) : ∃ x, pX13_exchanges g h (B + 187) (nI k) = some x ∧ But1 (B + 192) h x ∧ hD x = hD h ∧ (∀ i, i < 7 → hI x (B + 192) (6 + 8 * k + i) = hI h (B + 192) (14 + 8 * k + i) ∧ hI x (B + 192) (14 + 8 * k + i) = hI h (B + 192) (6 + 8 * k + i)) ∧ ∀ w, (w < 6 + 8 * k ∨ 22 + 8 * k ≤ w) → hI x (B + 192) w = hI h (B + 192) w := by
  obtain ⟨x, q1, i1, i2, i3, i4⟩ := loopE (L := fun f j s => pX13_exchanges_l2 g (B + 187) (nI k) f (nI j) s) (N := 7) (Inv := fun j s => But1 (B + 192) h s ∧ hD s = hD h ∧ (∀ i, i < j → hI s (B + 192) (6 + 8 * k + i) = hI h (B + 192) (14 + 8 * k + i) ∧ hI s (B + 192) (14 + 8 * k + i) = hI h (B + 192) (6 + 8 * k + i)) ∧ ∀ w, (∀ i, i < j → w ≠ 6 + 8 * k + i ∧ w ≠ 14 + 8 * k + i) → hI s (B + 192) w = hI h (B + 192) w) (K := fun s => some s) (fun f j s hj H => by
    obtain ⟨H1, H2, H3, H4⟩ := H
    have e19 : hR s (B + 187) 19 = some (B + 192) := by rw [H1.1]; exact pr_187_19 p2
    have ea : (6 + 8 * nI k + nI j : Int32) = nI (6 + 8 * k + j) := by rw [show (8 : Int32) = nI 8 from rfl, pk_mul, show (6 : Int32) = nI 6 from rfl, nI_add, nI_add]
    have eb : (nI (6 + 8 * k + j) + 8 : Int32) = nI (14 + 8 * k + j) := by
      rw [show (8 : Int32) = nI 8 from rfl, nI_add]
      congr 1; omega
    have s1 : hI s (B + 192) (6 + 8 * k + j) = hI h (B + 192) (6 + 8 * k + j) := H4 _ fun i hi => by omega
    have s2 : hI s (B + 192) (14 + 8 * k + j) = hI h (B + 192) (14 + 8 * k + j) := H4 _ fun i hi => by omega
    refine ⟨sI (sI s (B + 192) (6 + 8 * k + j) (hI h (B + 192) (14 + 8 * k + j))) (B + 192) (14 + 8 * k + j) (hI h (B + 192) (6 + 8 * k + j)), ?_, H1.stI.stI, H2, fun i hi => ?_, fun w hw => ?_⟩
    · show pX13_exchanges_l2 g (B + 187) (nI k) (f + 1) (nI j) s = _
      rw [pX13_exchanges_l2, pX13_exchanges_b2, if_neg (show ¬ (7 : Int32) ≤ nI j from nI_ge (b := 7) hj (by decide)), ea, w_lt, w_lt, e19, w_nn, w_tg (st_192 S), sl_192 S, w_ix (show 6 + 8 * k + j < 1476 by omega) (by decide), nI_clamp (show 6 + 8 * k + j < 2 ^ 31 by omega), s1, w_lt, w_lt, w_lt, w_nn, w_tg (st_192 S), sl_192 S, eb, w_ix (show 14 + 8 * k + j < 1476 by omega) (by decide), w_nn, w_tg (st_192 S), sl_192 S, w_ix (show 6 + 8 * k + j < 1476 by omega) (by decide), nI_clamp (show 14 + 8 * k + j < 2 ^ 31 by omega), s2, w_lt, w_lt, hR_sI, e19, w_nn, w_tg (st_192 S), sl_192 S, w_ix (show 14 + 8 * k + j < 1476 by omega) (by decide), w_lt, w_lt, nI_1]
    · rw [hI_sI, if_pos rfl, hI_sI, if_pos rfl]
      by_cases e : i = j
      · subst e
        refine ⟨?_, by rw [ud_s]⟩
        rw [ud_n (by omega), ud_s]
      · refine ⟨?_, ?_⟩
        · rw [ud_n (by omega), ud_n (by omega)]; exact (H3 i (by omega)).1
        · rw [ud_n (by omega), ud_n (by omega)]; exact (H3 i (by omega)).2
    · have := hw j (by omega)
      rw [hI_sI, if_pos rfl, hI_sI, if_pos rfl, ud_n (by omega), ud_n (by omega)]
      exact H4 w fun i hi => hw i (by omega)) (fun f s H => by
    show pX13_exchanges_l2 g (B + 187) (nI k) (f + 1) (nI 7) s = _
    rw [pX13_exchanges_l2, pX13_exchanges_b2, if_pos (by decide)]) 7 0 FUEL h (by omega) (by decide) ⟨But1.rf _ _, rfl, fun i hi => by omega, fun _ _ => rfl⟩
  refine ⟨x, ?_, i1, i2, i3, fun w hw => i4 w fun i hi => by omega⟩
  unfold pX13_exchanges
  rw [w_tg (st_187 S)]
  exact q1
/-- the class's copy, with the two changed -/
theorem k_copySw (S : Sh B g) (p1 : PtC B (hR h)) (P : PgC op g h pp π) (h30 : π.1 ≤ 30) (np : pp ≠ B + 174) (hk : k + 1 < π.1) : ∃ x, pX7_copySwapped g h (B + 174) pp (nI k) = some x ∧ (∀ w j, w ≠ B + 175 → hR x w j = hR h w j) ∧ (∀ w, w ≠ B + 174 → hI x w = hI h w) ∧ hL x = hL h ∧ hD x = hD h ∧ PgC op g x (B + 174) (swP π k) := by
  have t175 : gT g (B + 175) = 25 := st_175 S
  have np1 : pp + 1 ≠ B + 175 := by omega
  have keep : ∀ s : CT, (∀ w j, w ≠ B + 175 → hR s w j = hR h w j) → (∀ w, w ≠ B + 174 → hI s w = hI h w) → PgC op g s pp π := fun s sR' sI' => by
    obtain ⟨a1, a2, a3, a4, a5, a6⟩ := P
    refine ⟨a1, by rw [sR' pp 0 (fun e => by rw [e, t175] at a1; exact absurd a1 (by decide))]; exact a2, a3, a4, by rw [sI' pp np]; exact a5, fun j hj => ?_⟩
    obtain ⟨i, i1, i2, i3, i4⟩ := a6 j hj
    have ni : i ≠ B + 175 := fun e => by rw [e, t175] at i2; exact absurd i2 (by decide)
    have ni2 : i ≠ B + 174 := fun e => by rw [e, st_174 S] at i2; exact absurd i2 (by decide)
    exact ⟨i, by rw [sR' _ _ np1]; exact i1, i2, by rw [sR' _ _ ni]; exact i3, fun f f1 f2 => by rw [sI' _ ni2]; exact i4 f f1 f2⟩
  have n174 : B + 174 ≠ B + 175 := by omega
  have e30 : Int32.ofNat (gL g (B + 175)) = nI 30 := by rw [sl_175 S]; rfl
  obtain ⟨x, q1, i1, i2, i3, i4, i5, i6⟩ := loopE (L := fun f j s => pX7_copySwapped_l10 g (B + 174) pp (nI k) f (nI j) s) (N := π.1) (Inv := fun j s => (∀ w j, w ≠ B + 175 → hR s w j = hR h w j) ∧ (∀ w, w ≠ B + 174 → hI s w = hI h w) ∧ hI s (B + 174) 1 = nI π.1 ∧ hL s = hL h ∧ hD s = hD h ∧ ∀ i, i < j → hR s (B + 175) i = hR h (pp + 1) i) (K := fun s => pX7_copySwapped_b44 g (B + 174) pp (nI k) s) (fun f j s hj H => by
    obtain ⟨H1, H2, H3, H4, H5, H6⟩ := H
    have Ps := keep s H1 H2
    have r0 : hR s (B + 174) 0 = some (B + 175) := by rw [H1 _ _ n174]; exact pc_174_0 p1
    obtain ⟨i, j1, j2, j3, j4⟩ := P.2.2.2.2.2 j hj
    have rj : hR s (pp + 1) j = some i := by rw [H1 _ _ np1]; exact j1
    refine ⟨sR s (B + 175) j (some i), ?_, fun w v hw => ?_, H2, H3, H4, H5, fun v hv => ?_⟩
    · show pX7_copySwapped_l10 g (B + 174) pp (nI k) (f + 1) (nI j) s = _
      rw [pX7_copySwapped_l10, pX7_copySwapped_b10, H3, if_neg (nI_ge hj (by omega)), w_lt, r0, w_nn, w_tg t175, e30, if_neg (show ¬ nI 30 ≤ nI j from nI_ge (by omega) (by decide)), w_lt, w_tg P.1, k_at Ps h30 hj, w_bd, w_nn, w_tg t175, sl_175 S, w_ix (by omega) (by decide), rj, w_nn, w_tg j2, nI_clamp (by omega), w_lt, w_lt, nI_1]
    · rw [hR_sR, if_neg hw]; exact H1 w v hw
    · rw [hR_sR, if_pos rfl]
      by_cases e : v = j
      · rw [e, ud_s]; exact j1.symm
      · rw [ud_n e]; exact H6 v (by omega)) (fun f s H => by
    show pX7_copySwapped_l10 g (B + 174) pp (nI k) (f + 1) (nI π.1) s = _
    rw [pX7_copySwapped_l10, pX7_copySwapped_b10, H.2.2.1, if_pos (nI_le (Nat.le_refl _) (by omega))]) π.1 0 FUEL (sI h (B + 174) 1 (nI π.1)) (by omega) (by
      have : 100 < FUEL := by decide
      omega) ⟨fun _ _ _ => rfl, fun w hw => by rw [hI_sI, if_neg hw], by rw [hI_s], rfl, rfl, fun i hi => by omega⟩
  have Ps := keep x i1 i2
  obtain ⟨a, a1, a2, a3, a4⟩ := P.2.2.2.2.2 k (by omega)
  obtain ⟨c, c1, c2, c3, c4⟩ := P.2.2.2.2.2 (k + 1) hk
  have r0 : hR x (B + 174) 0 = some (B + 175) := by rw [i1 _ _ n174]; exact pc_174_0 p1
  have ra : hR x (pp + 1) k = some a := by rw [i1 _ _ np1]; exact a1
  have rc : hR x (pp + 1) (k + 1) = some c := by rw [i1 _ _ np1]; exact c1
  have fin : pX7_copySwapped_b44 g (B + 174) pp (nI k) x = some (sR (sR x (B + 175) k (some c)) (B + 175) (k + 1) (some a)) := by
    unfold pX7_copySwapped_b44
    have r0' : hR (sR x (B + 175) k (some c)) (B + 174) 0 = some (B + 175) := by rw [hR_sR, if_neg n174]; exact r0
    rw [w_tg P.1, k_at Ps h30 (by omega), w_bd, nI_1, k_at Ps h30 hk, w_bd, ra, rc, if_neg (by simp), if_neg (by simp), w_lt, r0, w_nn, w_tg t175, sl_175 S, w_ix (by omega) (by decide), w_nn, w_tg c2, nI_clamp (by omega), w_lt, w_lt, r0', w_nn, w_tg t175, sl_175 S, w_ix (by omega) (by decide), w_nn, w_tg a2, nI_clamp (by omega), w_lt]
  have fo : ∀ w j, w ≠ B + 175 → hR (sR (sR x (B + 175) k (some c)) (B + 175) (k + 1) (some a)) w j = hR h w j := fun w j hw => by rw [hR_sR, if_neg hw, hR_sR, if_neg hw]; exact i1 w j hw
  refine ⟨sR (sR x (B + 175) k (some c)) (B + 175) (k + 1) (some a), ?_, fo, i2, i4, i5, st_174 S, by rw [fo _ _ n174]; exact pc_174_0 p1, t175, sl_175 S, i3, fun j hj => ?_⟩
  · unfold pX7_copySwapped
    rw [w_tg (st_174 S), w_tg P.1, w_lt, P.2.2.2.2.1]
    exact q1.trans fin
  · have hj : j < π.1 := hj
    have inst : ∀ (j' i : Nat), hR h (pp + 1) j' = some i → gT g i = 2 → hR h i 0 = some (op (π.2 j' 0)) → (∀ f, 1 ≤ f → f ≤ 9 → hI h i f = nI (π.2 j' f)) → hR (sR (sR x (B + 175) k (some c)) (B + 175) (k + 1) (some a)) (B + 174 + 1) j = some i → (swP π k).2 j = π.2 j' → ∃ i, hR (sR (sR x (B + 175) k (some c)) (B + 175) (k + 1) (some a)) (B + 174 + 1) j = some i ∧ gT g i = 2 ∧ hR (sR (sR x (B + 175) k (some c)) (B + 175) (k + 1) (some a)) i 0 = some (op ((swP π k).2 j 0)) ∧ ∀ f, 1 ≤ f → f ≤ 9 → hI (sR (sR x (B + 175) k (some c)) (B + 175) (k + 1) (some a)) i f = nI ((swP π k).2 j f) := fun j' i u1 u2 u3 u4 u5 u6 => by
      have ni : i ≠ B + 175 := fun e => by rw [e, t175] at u2; exact absurd u2 (by decide)
      have ni2 : i ≠ B + 174 := fun e => by rw [e, st_174 S] at u2; exact absurd u2 (by decide)
      refine ⟨i, u5, u2, by rw [fo _ _ ni, u6]; exact u3, fun f f1 f2 => ?_⟩
      rw [u6]
      exact (congrFun (i2 i ni2) f).trans (u4 f f1 f2)
    have rr : ∀ j, hR (sR (sR x (B + 175) k (some c)) (B + 175) (k + 1) (some a)) (B + 174 + 1) j = ud (ud (hR x (B + 175)) k (some c)) (k + 1) (some a) j := fun j => by
      rw [show B + 174 + 1 = B + 175 from rfl, hR_sR, if_pos rfl, hR_sR, if_pos rfl]
    by_cases e1 : j = k
    · refine inst (k + 1) c c1 c2 c3 c4 (by rw [rr, e1, ud_n (by omega), ud_s]) ?_
      show (if j = k then _ else if j = k + 1 then _ else _) = _; rw [if_pos e1]
    · by_cases e2 : j = k + 1
      · refine inst k a a1 a2 a3 a4 (by rw [rr, e2, ud_s]) ?_
        show (if j = k then _ else if j = k + 1 then _ else _) = _; rw [if_neg e1, if_pos e2]
      · obtain ⟨i, j1, j2, j3, j4⟩ := P.2.2.2.2.2 j hj
        refine inst j i j1 j2 j3 j4 (by rw [rr, ud_n e2, ud_n e1, i6 j hj]; exact j1) ?_
        show (if j = k then _ else if j = k + 1 then _ else _) = _; rw [if_neg e1, if_neg e2]
end SWP
