/-! the class's turn at the word of an INSTRUCTION -/
section BEG
variable {B b L : Nat} {E : EC} {xs : Nat → Int32} {op st bt : Nat → Nat} {aL aS aO : Nat} {g : MT} {h h' h1 h2 : CT} {tp : Nat → Int32} {n p p1 pg ci fi j i m k0 : Nat} {p2 : Int32} {cur opn : Option Nat}
/-- the fault at a word: 0 for none -/
def bF (tp : Nat → Int32) (n p k0 m : Nat) (ins : Bool) : Int32 := if tK tp n p = 0 then 1 else if k0 = 28 ∨ (k0 = 27 ∧ ins = false) then 2 else if k0 = 27 then 0 else if m = 30 then 6 else if k0 = 25 ∧ ins = true then 7 else 0
theorem e_op (K : EOK E b L xs op st bt aL aS aO) : E.1 30 = .ref (op 25) ∧ E.1 32 = .ref (op 27) := ⟨K.1.2.2.2.2.2.1 25 (by decide), K.1.2.2.2.2.2.1 27 (by decide)⟩
theorem k_begin (K : EOK E b L xs op st bt aL aS aO) (X : KL B st g h tp n p pg cur fi (stB fi).length opn) (Z : TZ g) (c1 : gT g pg = 6) (c2 : hR h pg 0 = some (pg + 1)) (c3 : gT g (pg + 1) = 25) (c4 : gL g (pg + 1) = 30) (c5 : hI h pg 1 = nI m) (hm : m ≤ 30) (ot : ∀ so, opn = some so → gT g so = 2) (hi : i ≤ n) (sn : tS tp n p < n) (h0 : k0 < 29) (U : ∀ k, k < 28 → (isT tp n p (nmB k) ↔ k = k0)) :
    ∃ h', (bF tp n p k0 m opn.isSome ≠ 0 ∧ hI h' (B + 11) 0 = bF tp n p k0 m opn.isSome ∧ hI h' (B + 11) 1 = nI (tS tp n p) ∧ (∀ a, a ≠ B + 11 → Eqa h h' a) ∧ ∀ f, pX6_parse_l64 E (B + 11) p1 p2 (f + 2) (nI i) g h = some (none, g, h'))
      ∨ (bF tp n p k0 m opn.isSome = 0 ∧ k0 < 27 ∧ m < 30 ∧ (k0 = 25 → opn = none) ∧ KL B st (gA g 2 10) h' tp n (tE tp n p) pg (some (gN g)) (opD k0).2.2.1 0 (if k0 = 25 then some (gN g) else opn) ∧ (hI h' (gN g) = fun _ => 0) ∧ hR h' (gN g) 0 = some (op k0) ∧ hR h' (pg + 1) = ud (hR h (pg + 1)) m (some (gN g)) ∧ hI h' pg = ud (hI h pg) 1 (nI (m + 1)) ∧ hR h' pg = hR h pg ∧ (∀ a, a ≠ B + 11 → a ≠ pg → a ≠ pg + 1 → a ≠ gN g → Eqa h h' a)
        ∧ ∀ f R, pX6_parse_l64 E (B + 11) p1 p2 f (nI (i + 1)) (gA g 2 10) h' = some R → gN (gA g 2 10) ≤ gN R.2.1 ∧ gU (gA g 2 10) ≤ gU R.2.1 → pX6_parse_l64 E (B + 11) p1 p2 (f + 1) (nI i) g h = some R)
      ∨ (bF tp n p k0 m opn.isSome = 0 ∧ k0 = 27 ∧ ∃ so, opn = some so ∧ KL B st g h' tp n (tE tp n p) pg none (opD 27).2.2.1 0 none ∧ hI h' so = ud (hI h so) 9 (nI m) ∧ hR h' so = hR h so ∧ (∀ a, a ≠ B + 11 → a ≠ so → Eqa h h' a)
        ∧ ∀ f R, pX6_parse_l64 E (B + 11) p1 p2 f (nI (i + 1)) g h' = some R → gN g ≤ gN R.2.1 ∧ gU g ≤ gU R.2.1 → pX6_parse_l64 E (B + 11) p1 p2 (f + 1) (nI i) g h = some R) := by
  obtain ⟨T, hp, e5, e0, e1, r7, r8, r9, hfi, e10, r11⟩ := X
  have n900 := T.2.2.2.2.2.2
  have l7 := stb_len fi hfi
  have T61 := (K.2.2.1 fi hfi).1
  have sl := tS_le (tp := tp) hp
  have el := tE_le (tp := tp) hp
  obtain ⟨h4, q5, T4, q2, q3, qA, -, qT⟩ := k_step (E := E) (p1 := p1) (p2 := p2) (i := i) T hp e5 e0 hi
  have A4 := qA sn
  have s7 : hR h4 (B + 11) 7 = some pg := by rw [q5.1]; exact r7
  have s9 : hR h4 (B + 11) 9 = some (st fi) := by rw [q5.1]; exact r9
  have s11 : hR h4 (B + 11) 11 = opn := by rw [q5.1]; exact r11
  have k10 : hI h4 (B + 11) 10 = nI (stB fi).length := by rw [q5.2.2.1 10 (by decide) (by decide) (by decide)]; exact e10
  have np : pg ≠ B + 11 := fun e => by rw [e, T.1] at c1; cases c1
  have np1 : pg + 1 ≠ B + 11 := fun e => by rw [e, T.1] at c3; cases c3
  have np2 : pg ≠ B + 10 := fun e => by rw [e, T.2.2.1] at c1; cases c1
  have z1 := Z.lt (a := pg) (by rw [c1]; decide)
  have z2 := Z.lt (a := pg + 1) (by rw [c3]; decide)
  have z3 := Z.lt (a := B + 11) (by rw [T.1]; decide)
  have z4 := Z.lt (a := B + 10) (by rw [T.2.2.1]; decide)
  have nam := k_named K A4 h0 U
  have x30 := (e_op K).1
  have x32 := (e_op K).2
  have mono : gN g ≤ gN g ∧ gU g ≤ gU g := ⟨Nat.le_refl _, Nat.le_refl _⟩
  -- a fault
  have bad : ∀ x h9, x ≠ 0 → bF tp n p k0 m opn.isSome = x → pX6_tokenFault E g h4 (B + 11) = some (x, g, h9) → (∀ a, a ≠ B + 11 → Eqa h4 h9 a) → (∀ k, k ≠ 10 → hI h9 (B + 11) k = hI h4 (B + 11) k) → (hR h9 (B + 11) 2 = hR h4 (B + 11) 2) → ∃ h', (bF tp n p k0 m opn.isSome ≠ 0 ∧ hI h' (B + 11) 0 = bF tp n p k0 m opn.isSome ∧ hI h' (B + 11) 1 = nI (tS tp n p) ∧ (∀ a, a ≠ B + 11 → Eqa h h' a) ∧ ∀ f, pX6_parse_l64 E (B + 11) p1 p2 (f + 2) (nI i) g h = some (none, g, h')) := fun x h9 hx ex et ea ek er => by
    have st9 := fun f R => qT sn x g h9 f R et T.1
    rw [if_neg hx] at st9
    have f4 : hI h9 (B + 11) 4 = nI (tS tp n p) := by rw [ek 4 (by decide)]; exact q2
    have T9 : KT B g (sI (sI h9 (B + 11) 0 x) (B + 11) 1 (hI h9 (B + 11) 4)) tp n := ⟨T.1, by show hR h9 (B + 11) 2 = _; rw [er]; exact T4.2.1, T.2.2.1, T.2.2.2.1, by rw [hI_sI, if_neg (by omega), hI_sI, if_neg (by omega), (ea (B + 10) (by omega)).1]; exact T4.2.2.2.2.1, by rw [hI_sI, if_pos rfl, ud_n (by decide), hI_sI, if_pos rfl, ud_n (by decide), ek 3 (by decide)]; exact T4.2.2.2.2.2.1, n900⟩
    refine ⟨sI (sI h9 (B + 11) 0 x) (B + 11) 1 (hI h9 (B + 11) 4), by rw [ex]; exact hx, by rw [hI_sI, if_pos rfl, ud_n (by decide), hI_s, ex], by rw [hI_s, f4], fun a ha => (((q5.2.1 a ha).tr (ea a ha)).sI ha).sI ha, fun f => ?_⟩
    exact st9 (f + 1) _ (k_bad2 T9 (by rw [hI_sI, if_pos rfl, ud_n (by decide), hI_s]; exact hx) f _) mono
  by_cases tk : tK tp n p = 0
  · have ex : bF tp n p k0 m opn.isSome = 1 := if_pos tk
    obtain ⟨h', w⟩ := bad 1 h4 (by decide) ex (by
      unfold pX6_tokenFault
      rw [w_tg T.1, A4.2.2.2.2.2, if_pos tk]
      exact w_gq (pr := fun z : Int32 × MT × CT => z.2.1) mono) (fun a _ => Eqa.rf h4 a) (fun _ _ => rfl) rfl
    exact ⟨h', Or.inl w⟩
  have tf : pX6_tokenFault E g h4 (B + 11) = gq (fun z => z.2.1) g (bd3 (pX6_beginInstruction E g h4 (B + 11)) fun x12 g8 h9 => (gq (fun z => z.2.1) g8 (some (x12, g8, h9)))) := by
    unfold pX6_tokenFault
    rw [w_tg T.1, A4.2.2.2.2.2, if_neg tk, w_lt, s9, w_nn, w_tg T61, k_len K hfi, w_bd, k10, if_pos (nI_le (Nat.le_refl _) (by omega))]
  have tf1 : ∀ x g' h9, pX6_beginInstruction E g h4 (B + 11) = some (x, g', h9) → gN g ≤ gN g' ∧ gU g ≤ gU g' → pX6_tokenFault E g h4 (B + 11) = some (x, g', h9) := fun x g' h9 e mo => by
    rw [tf, e]
    show gq _ g (gq (fun z : Int32 × MT × CT => z.2.1) g' (some (x, g', h9))) = _
    rw [w_gq (pr := fun z : Int32 × MT × CT => z.2.1) (g1 := g') (r := (x, g', h9)) ⟨Nat.le_refl _, Nat.le_refl _⟩]
    exact w_gq (pr := fun z : Int32 × MT × CT => z.2.1) mo
  have beg : ∀ r, (bd2 (pX6_opNamed E g h4 (B + 11)) fun r4 h2 => (if r4 = none then some ((2 : Int32), g, h2) else kR (E.1 32) fun a6 => (if r4 = (some a6) then lt (hR h2 (B + 11) 11) fun r8 => (if r8 = none then some (2, g, h2) else pX6_beginInstruction_b25 E (B + 11) r4 g h2) else pX6_beginInstruction_b25 E (B + 11) r4 g h2))) = some r → gN g ≤ gN r.2.1 ∧ gU g ≤ gU r.2.1 → pX6_beginInstruction E g h4 (B + 11) = some r := fun r e mo => by
    unfold pX6_beginInstruction
    rw [w_tg T.1, e]
    exact w_gq (pr := fun z : Int32 × MT × CT => z.2.1) mo
  by_cases k28 : k0 = 28
  · have ex : bF tp n p k0 m opn.isSome = 2 := by unfold bF; rw [if_neg tk, if_pos (Or.inl k28)]
    obtain ⟨h', w⟩ := bad 2 h4 (by decide) ex (tf1 _ _ _ (beg (2, g, h4) (by rw [nam, if_neg (by omega), w_bd2, if_pos rfl]) mono) mono) (fun a _ => Eqa.rf h4 a) (fun _ _ => rfl) rfl
    exact ⟨h', Or.inl w⟩
  have k28' : k0 < 28 := by omega
  rw [if_pos k28'] at nam
  obtain ⟨o1, -, -, -, -, o6⟩ := K.2.1 k0 k28'
  obtain ⟨hF, l45⟩ := frm k0 k28'
  -- the form is set
  have H5 : ∀ a, a ≠ B + 11 → Eqa h4 (sI (sR h4 (B + 11) 9 (some (st (opD k0).2.2.1))) (B + 11) 10 0) a := fun a ha => ((Eqa.rf h4 a).sR ha).sI ha
  have H5k : ∀ k, k ≠ 10 → hI (sI (sR h4 (B + 11) 9 (some (st (opD k0).2.2.1))) (B + 11) 10 0) (B + 11) k = hI h4 (B + 11) k := fun k hk => by rw [hI_sI, if_pos rfl, ud_n hk]; rfl
  have H5R : ∀ k, hR (sI (sR h4 (B + 11) 9 (some (st (opD k0).2.2.1))) (B + 11) 10 0) (B + 11) k = if k = 9 then some (st (opD k0).2.2.1) else hR h4 (B + 11) k := fun k => by
    show hR (sR h4 (B + 11) 9 (some (st (opD k0).2.2.1))) (B + 11) k = _
    rw [hR_sR, if_pos rfl]
    by_cases e : k = 9
    · rw [e, ud_s, if_pos rfl]
    · rw [ud_n e, if_neg e]
  generalize h5e : sI (sR h4 (B + 11) 9 (some (st (opD k0).2.2.1))) (B + 11) 10 0 = h5 at H5 H5k H5R
  have b25 : pX6_beginInstruction_b25 E (B + 11) (some (op k0)) g h4 = if k0 = 27 then (lt (hR h5 (B + 11) 11) fun r15 => (lt (hR h5 (B + 11) 7) fun r16 => (nn r16 fun a16 => (tg g a16 6 (nn r15 fun a15 => (tg g a15 2 (lt (sI h5 a15 9 (hI h5 a16 1)) fun h19 => (lt (sR h19 (B + 11) 11 none) fun h20 => (lt (sR h20 (B + 11) 8 none) fun h21 => (some (0, g, h21))))))))))) else (if m < 30 then (if k0 = 25 then (if opn = none then pX6_beginInstruction_b103 E (B + 11) (some (op k0)) g h5 else some (7, g, h5)) else pX6_beginInstruction_b103 E (B + 11) (some (op k0)) g h5) else some (6, g, h5)) := by
    have e51 : hI h5 pg 1 = nI m := by rw [(H5 pg np).1, (q5.2.1 pg np).1]; exact c5
    unfold pX6_beginInstruction_b25
    rw [w_nn, w_tg o1, w_lt, o6, w_tg T.1, w_lt, w_lt, h5e, x32, w_kR]
    simp only [eq_op K k28' (show 27 < 28 by decide)]
    by_cases k27 : k0 = 27
    · rw [if_pos k27, if_pos k27]
    · rw [if_neg k27, if_neg k27, w_lt, H5R 7, if_neg (by decide), s7, w_nn, w_tg c1, e51]
      by_cases m30 : m < 30
      · rw [if_pos (show nI m < 30 from nI_lt (b := 30) m30 (by omega)), if_pos m30, x30, w_kR]
        simp only [eq_op K k28' (show 25 < 28 by decide)]
        by_cases k25 : k0 = 25
        · rw [if_pos k25, if_pos k25, w_lt, H5R 11, if_neg (show ¬ (11 : Nat) = 9 by decide), s11]
        · rw [if_neg k25, if_neg k25]
      · rw [if_neg (show ¬ nI m < 30 from nI_nlt (b := 30) (by omega) (by omega)), if_neg m30]
  have top : ∀ r, (if k0 = 27 then (if opn = none then some ((2 : Int32), g, h4) else pX6_beginInstruction_b25 E (B + 11) (some (op k0)) g h4) else pX6_beginInstruction_b25 E (B + 11) (some (op k0)) g h4) = some r → gN g ≤ gN r.2.1 ∧ gU g ≤ gU r.2.1 → pX6_beginInstruction E g h4 (B + 11) = some r := fun r e mo => beg r (by
    rw [nam, w_bd2, if_neg (fun w => by cases w), x32, w_kR, w_lt, s11, ← e]
    simp only [eq_op K k28' (show 27 < 28 by decide)]) mo
  by_cases k27 : k0 = 27
  · cases ho : opn with
    | none =>
      subst ho
      have ex : bF tp n p k0 m (none : Option Nat).isSome = 2 := by unfold bF; rw [if_neg tk, if_pos (Or.inr ⟨k27, rfl⟩)]
      obtain ⟨h', w⟩ := bad 2 h4 (by decide) ex (tf1 _ _ _ (top (2, g, h4) (by rw [if_pos k27, if_pos rfl]) mono) mono) (fun a _ => Eqa.rf h4 a) (fun _ _ => rfl) rfl
      exact ⟨h', Or.inl w⟩
    | some so =>
      subst ho
      have ex : bF tp n p k0 m (some so : Option Nat).isSome = 0 := by
        unfold bF
        rw [if_neg tk, if_neg (by rintro (w | w); exact k28 w; exact absurd w.2 (by simp)), if_pos k27]
      have tso := ot so rfl
      have nso : so ≠ B + 11 := fun e => by rw [e, T.1] at tso; cases tso
      have nso2 : so ≠ B + 10 := fun e => by rw [e, T.2.2.1] at tso; cases tso
      have e51 : hI h5 pg 1 = nI m := by rw [(H5 pg np).1, (q5.2.1 pg np).1]; exact c5
      rw [if_pos k27, w_lt, H5R 11, if_neg (by decide), s11, w_lt, H5R 7, if_neg (by decide), s7, w_nn, w_tg c1, w_nn, w_tg tso, e51, w_lt, w_lt, w_lt] at b25
      have tf2 := tf1 _ _ _ (top _ (by rw [if_pos k27, if_neg (fun w => by cases w)]; exact b25) mono) mono
      have st0 := fun f R => qT sn 0 g _ f R tf2 T.1
      rw [if_pos rfl] at st0
      subst k27
      have FI : ∀ a, a ≠ B + 11 → hI (sI (sI (sR (sR (sI h5 so 9 (nI m)) (B + 11) 11 none) (B + 11) 8 none) (B + 11) 0 0) (B + 11) 1 (-1)) a = hI (sI h5 so 9 (nI m)) a := fun a ha => by
        rw [hI_sI, if_neg ha, hI_sI, if_neg ha]; rfl
      have FK : ∀ k, k ≠ 0 → k ≠ 1 → hI (sI (sI (sR (sR (sI h5 so 9 (nI m)) (B + 11) 11 none) (B + 11) 8 none) (B + 11) 0 0) (B + 11) 1 (-1)) (B + 11) k = hI h5 (B + 11) k := fun k h0 h1 => by
        rw [hI_sI, if_pos rfl, ud_n h1, hI_sI, if_pos rfl, ud_n h0]
        show hI (sI h5 so 9 (nI m)) (B + 11) k = _
        rw [hI_sI, if_neg (fun e => nso e.symm)]
      have FR : ∀ k, hR (sI (sI (sR (sR (sI h5 so 9 (nI m)) (B + 11) 11 none) (B + 11) 8 none) (B + 11) 0 0) (B + 11) 1 (-1)) (B + 11) k = if k = 8 ∨ k = 11 then none else hR h5 (B + 11) k := fun k => by
        show hR (sR (sR (sI h5 so 9 (nI m)) (B + 11) 11 none) (B + 11) 8 none) (B + 11) k = _
        rw [hR_sR, if_pos rfl]
        by_cases e8 : k = 8
        · rw [e8, ud_s, if_pos (Or.inl rfl)]
        · rw [ud_n e8, hR_sR, if_pos rfl]
          by_cases e11 : k = 11
          · rw [e11, ud_s, if_pos (Or.inr rfl)]
          · rw [ud_n e11, if_neg (by omega)]; rfl
      have FA : ∀ a, a ≠ B + 11 → a ≠ so → Eqa h (sI (sI (sR (sR (sI h5 so 9 (nI m)) (B + 11) 11 none) (B + 11) 8 none) (B + 11) 0 0) (B + 11) 1 (-1)) a := fun a ha hs => ((((((q5.2.1 a ha).tr (H5 a ha)).sI hs).sR ha).sR ha).sI ha).sI ha
      refine ⟨_, Or.inr (Or.inr ⟨ex, rfl, so, rfl, ⟨⟨T.1, by rw [FR, if_neg (by decide), H5R, if_neg (by decide)]; exact T4.2.1, T.2.2.1, T.2.2.2.1, by rw [(FA (B + 10) (by omega) (fun e => nso2 e.symm)).1]; exact T.2.2.2.2.1, by rw [FK 3 (by decide) (by decide), H5k 3 (by decide)]; exact T4.2.2.2.2.2.1, n900⟩, el.2.1, by rw [FK 5 (by decide) (by decide), H5k 5 (by decide)]; exact q3, by rw [hI_sI, if_pos rfl, ud_n (by decide), hI_s], by rw [hI_s], by rw [FR, if_neg (by decide), H5R, if_neg (by decide)]; exact s7, by rw [FR, if_pos (by decide)], by rw [FR, if_neg (by decide), H5R, if_pos rfl], l45, ?_, by rw [FR, if_pos (by decide)]⟩, ?_, ?_, FA, st0⟩)⟩
      · rw [FK 10 (by decide) (by decide), ← h5e, hI_s]; rfl
      · rw [FI so nso, hI_sI, if_pos rfl, (H5 so nso).1, (q5.2.1 so nso).1]
      · show hR (sR (sR (sI h5 so 9 (nI m)) (B + 11) 11 none) (B + 11) 8 none) so = _
        rw [hR_sR, if_neg nso, hR_sR, if_neg nso]
        show hR h5 so = _
        rw [(H5 so nso).2.2.2, (q5.2.1 so nso).2.2.2]
  rw [if_neg k27] at b25
  have top2 : ∀ r, pX6_beginInstruction_b25 E (B + 11) (some (op k0)) g h4 = some r → gN g ≤ gN r.2.1 ∧ gU g ≤ gU r.2.1 → pX6_beginInstruction E g h4 (B + 11) = some r := fun r e mo => top r (by rw [if_neg k27]; exact e) mo
  have bx : bF tp n p k0 m opn.isSome = if m = 30 then 6 else if k0 = 25 ∧ opn.isSome = true then 7 else 0 := by
    unfold bF
    rw [if_neg tk, if_neg (by rintro (w | w); exact k28 w; exact k27 w.1), if_neg k27]
  by_cases m30 : m = 30
  · rw [if_pos m30] at bx
    obtain ⟨h', w⟩ := bad 6 h5 (by decide) bx (tf1 _ _ _ (top2 (6, g, h5) (by rw [b25, if_neg (by omega)]) mono) mono) H5 H5k (by rw [H5R, if_neg (by decide)])
    exact ⟨h', Or.inl w⟩
  rw [if_neg m30] at bx
  by_cases c7 : k0 = 25 ∧ opn.isSome = true
  · rw [if_pos c7] at bx
    obtain ⟨h', w⟩ := bad 7 h5 (by decide) bx (tf1 _ _ _ (top2 (7, g, h5) (by rw [b25, if_pos (by omega), if_pos c7.1, if_neg (fun e => by rw [e] at c7; exact absurd c7.2 (by decide))]) mono) mono) H5 H5k (by rw [H5R, if_neg (by decide)])
    exact ⟨h', Or.inl w⟩
  rw [if_neg c7] at bx
  have on : k0 = 25 → opn = none := fun e => by
    cases ho : opn with
    | none => rfl
    | some so => exact absurd ⟨e, by rw [ho]; rfl⟩ c7
  have b103 : pX6_beginInstruction_b25 E (B + 11) (some (op k0)) g h4 = pX6_beginInstruction_b103 E (B + 11) (some (op k0)) g h5 := by
    rw [b25, if_pos (by omega)]
    by_cases k25 : k0 = 25
    · rw [if_pos k25, if_pos (on k25)]
    · rw [if_neg k25]
  have app := k_append (h := h5) (pg := pg) (m := m) (o := op k0) Z c1 (by rw [(H5 pg np).2.2.2, (q5.2.1 pg np).2.2.2]; exact c2) c3 c4 (by rw [(H5 pg np).1, (q5.2.1 pg np).1]; exact c5) (by omega)
  have mo1 : gN g ≤ gN (gA g 2 10) ∧ gU g ≤ gU (gA g 2 10) := ⟨Nat.le_succ _, Nat.le_add_right _ _⟩
  have T5' : gT (gA g 2 10) (B + 11) = 5 := by rw [gT_gA, if_neg (by omega)]; exact T.1
  obtain ⟨h8, e8, f8a, f8b, f8c⟩ : ∃ h8, pX6_beginInstruction_b103 E (B + 11) (some (op k0)) g h5 = some (0, gA g 2 10, h8) ∧ (∀ a, a ≠ B + 11 → Eqa (apH g h5 pg m (op k0)) h8 a) ∧ hI h8 (B + 11) = hI (apH g h5 pg m (op k0)) (B + 11) ∧ ∀ k, hR h8 (B + 11) k = if k = 8 then some (gN g) else if k = 11 ∧ k0 = 25 then some (gN g) else hR (apH g h5 pg m (op k0)) (B + 11) k := by
    unfold pX6_beginInstruction_b103
    rw [w_tg T.1, w_lt, H5R 7, if_neg (by decide), s7, w_nn, w_tg c1, w_nn, app, w_bd3, w_tg T5', w_lt, x30, w_kR]
    simp only [eq_op K k28' (show 25 < 28 by decide)]
    by_cases k25 : k0 = 25
    · rw [if_pos k25, hR_sR, if_pos rfl, ud_s, w_lt, w_lt]
      refine ⟨_, w_gq (pr := fun z : Int32 × MT × CT => z.2.1) ⟨Nat.le_refl _, Nat.le_refl _⟩, fun a ha => ((Eqa.rf _ a).sR ha).sR ha, rfl, fun k => ?_⟩
      rw [hR_sR, if_pos rfl]
      by_cases e11 : k = 11
      · rw [e11, ud_s, if_neg (by decide), if_pos ⟨rfl, k25⟩]
      · rw [ud_n e11, hR_sR, if_pos rfl]
        by_cases e8 : k = 8
        · rw [e8, ud_s, if_pos rfl]
        · rw [ud_n e8, if_neg e8, if_neg (fun w => e11 w.1)]
    · rw [if_neg k25]
      refine ⟨_, w_gq (pr := fun z : Int32 × MT × CT => z.2.1) ⟨Nat.le_refl _, Nat.le_refl _⟩, fun a ha => (Eqa.rf _ a).sR ha, rfl, fun k => ?_⟩
      rw [hR_sR, if_pos rfl]
      by_cases e8 : k = 8
      · rw [e8, ud_s, if_pos rfl]
      · rw [ud_n e8, if_neg e8, if_neg (fun w => k25 w.2)]
  have tf3 := tf1 _ _ _ (top2 _ (b103.trans e8) mo1) mo1
  have st0 := fun f R => qT sn 0 _ _ f R tf3 T5'
  rw [if_pos rfl] at st0
  have aI : ∀ a, a ≠ gN g → a ≠ pg → hI (apH g h5 pg m (op k0)) a = hI h5 a := fun a w1 w2 => by
    unfold apH
    rw [hI_sI, if_neg w2]
    show hI (hZ h5 (gN g)) a = _
    rw [hI_hZ, if_neg w1]
  have aR : ∀ a, a ≠ gN g → a ≠ pg + 1 → hR (apH g h5 pg m (op k0)) a = hR h5 a := fun a w1 w2 => by
    unfold apH
    show hR (sR (sR (hZ h5 (gN g)) (gN g) 0 (some (op k0))) (pg + 1) m (some (gN g))) a = _
    rw [hR_sR, if_neg w2, hR_sR, if_neg w1, hR_hZ, if_neg w1]
  have aA : ∀ a, a ≠ gN g → a ≠ pg → a ≠ pg + 1 → Eqa h5 (apH g h5 pg m (op k0)) a := fun a w1 w2 w3 => ⟨aI a w1 w2, by
    show hL (hZ h5 (gN g)) a = _
    rw [hL_hZ, if_neg w1], by
    show hD (hZ h5 (gN g)) a = _
    rw [hD_hZ, if_neg w1], aR a w1 w3⟩
  have F1 : ∀ a, a ≠ B + 11 → Eqa (apH g h5 pg m (op k0)) (sI (sI h8 (B + 11) 0 0) (B + 11) 1 (-1)) a := fun a ha => ((f8a a ha).sI ha).sI ha
  have FK : ∀ k, k ≠ 0 → k ≠ 1 → hI (sI (sI h8 (B + 11) 0 0) (B + 11) 1 (-1)) (B + 11) k = hI h5 (B + 11) k := fun k w0 w1 => by
    rw [hI_sI, if_pos rfl, ud_n w1, hI_sI, if_pos rfl, ud_n w0, f8b, aI _ (by omega) (fun e => np e.symm)]
  have FR : ∀ k, hR (sI (sI h8 (B + 11) 0 0) (B + 11) 1 (-1)) (B + 11) k = if k = 8 then some (gN g) else if k = 11 ∧ k0 = 25 then some (gN g) else hR h5 (B + 11) k := fun k => by
    show hR h8 (B + 11) k = _
    rw [f8c, aR _ (by omega) (fun e => np1 e.symm)]
  have FA : ∀ a, a ≠ B + 11 → a ≠ pg → a ≠ pg + 1 → a ≠ gN g → Eqa h (sI (sI h8 (B + 11) 0 0) (B + 11) 1 (-1)) a := fun a w1 w2 w3 w4 => (((q5.2.1 a w1).tr (H5 a w1)).tr (aA a w4 w2 w3)).tr (F1 a w1)
  refine ⟨_, Or.inr (Or.inl ⟨bx, by omega, by omega, on, ⟨⟨T5', by rw [FR, if_neg (by decide), if_neg (fun w => absurd w.1 (by decide)), H5R, if_neg (by decide)]; exact T4.2.1, by rw [gT_gA, if_neg (by omega)]; exact T.2.2.1, by rw [gL_gA, if_neg (by omega)]; exact T.2.2.2.1, by rw [(FA (B + 10) (by omega) (fun e => np2 e.symm) (fun e => by rw [← e, T.2.2.1] at c3; cases c3) (by omega)).1]; exact T.2.2.2.2.1, by rw [FK 3 (by decide) (by decide), H5k 3 (by decide)]; exact T4.2.2.2.2.2.1, n900⟩, el.2.1, by rw [FK 5 (by decide) (by decide), H5k 5 (by decide)]; exact q3, by rw [hI_sI, if_pos rfl, ud_n (by decide), hI_s], by rw [hI_s], by rw [FR, if_neg (by decide), if_neg (fun w => absurd w.1 (by decide)), H5R, if_neg (by decide)]; exact s7, by rw [FR, if_pos rfl], by rw [FR, if_neg (by decide), if_neg (fun w => absurd w.1 (by decide)), H5R, if_pos rfl], l45, ?_, ?_⟩, ?_, ?_, ?_, ?_, ?_, FA, st0⟩)⟩
  · rw [FK 10 (by decide) (by decide), ← h5e, hI_s]; rfl
  · rw [FR, if_neg (by decide)]
    by_cases k25 : k0 = 25
    · rw [if_pos ⟨rfl, k25⟩, if_pos k25]
    · rw [if_neg (fun w => k25 w.2), if_neg k25, H5R, if_neg (by decide)]; exact s11
  · rw [(F1 (gN g) (by omega)).1]
    unfold apH
    rw [hI_sI, if_neg (by omega)]
    show hI (hZ h5 (gN g)) (gN g) = _
    rw [hI_hZ, if_pos rfl]
  · rw [(F1 (gN g) (by omega)).2.2.2]
    unfold apH
    show hR (sR (sR (hZ h5 (gN g)) (gN g) 0 (some (op k0))) (pg + 1) m (some (gN g))) (gN g) 0 = _
    rw [hR_sR, if_neg (by omega), hR_sR, if_pos rfl, ud_s]
  · rw [(F1 (pg + 1) np1).2.2.2]
    unfold apH
    show hR (sR (sR (hZ h5 (gN g)) (gN g) 0 (some (op k0))) (pg + 1) m (some (gN g))) (pg + 1) = _
    rw [hR_sR, if_pos rfl, hR_sR, if_neg (by omega), hR_hZ, if_neg (by omega), (H5 (pg + 1) np1).2.2.2, (q5.2.1 (pg + 1) np1).2.2.2]
  · rw [(F1 pg np).1]
    unfold apH
    rw [hI_sI, if_pos rfl]
    show ud (hI (hZ h5 (gN g)) pg) 1 (nI (m + 1)) = _
    rw [hI_hZ, if_neg (by omega), (H5 pg np).1, (q5.2.1 pg np).1]
  · rw [(F1 pg np).2.2.2, aR pg (by omega) (by omega), (H5 pg np).2.2.2, (q5.2.1 pg np).2.2.2]
/-- the sign behind END -/
theorem k_sign (K : EOK E b L xs op st bt aL aS aO) (X : KL B st g h tp n p pg cur fi j opn) (hj : j < (stB fi).length) (ec : (stB fi).getD j 0 = 59) (hi : i ≤ n) :
    ∃ h', WF1 B (B + 11) h h' ∧ ((fF tp n p 59 = 0 ∧ KL B st g h' tp n (tE tp n p) pg cur fi (j + 1) opn ∧ ∀ f R, pX6_parse_l64 E (B + 11) p1 p2 f (nI (i + 1)) g h' = some R → gN g ≤ gN R.2.1 ∧ gU g ≤ gU R.2.1 → pX6_parse_l64 E (B + 11) p1 p2 (f + 1) (nI i) g h = some R)
      ∨ (fF tp n p 59 ≠ 0 ∧ hI h' (B + 11) 0 = fF tp n p 59 ∧ hI h' (B + 11) 1 = nI (tS tp n p) ∧ ∀ f, pX6_parse_l64 E (B + 11) p1 p2 (f + 2) (nI i) g h = some (none, g, h'))) := by
  obtain ⟨T, hp, e5, e0, e1, r7, r8, r9, hfi, e10, r11⟩ := X
  have n900 := T.2.2.2.2.2.2
  have l7 := stb_len fi hfi
  have T61 := (K.2.2.1 fi hfi).1
  have sl := tS_le (tp := tp) hp
  have el := tE_le (tp := tp) hp
  obtain ⟨h4, q5, T4, q2, q3, qA, qE, qT⟩ := k_step (E := E) (p1 := p1) (p2 := p2) (i := i) T hp e5 e0 hi
  have k0 : hI h4 (B + 11) 0 = 0 := by rw [q5.2.2.1 0 (by decide) (by decide) (by decide)]; exact e0
  have k10 : hI h4 (B + 11) 10 = nI j := by rw [q5.2.2.1 10 (by decide) (by decide) (by decide)]; exact e10
  have s9 : hR h4 (B + 11) 9 = some (st fi) := by rw [q5.1]; exact r9
  have kt : ∀ h1, WF1 B (B + 11) h h1 → KT B g h1 tp n := fun h1 x => T.w (ci := B + 11) (by omega) x
  have mono : gN g ≤ gN g ∧ gU g ≤ gU g := ⟨Nat.le_refl _, Nat.le_refl _⟩
  by_cases sn : tS tp n p < n
  · have A4 := qA sn
    have A5 : KA B g (sI h4 (B + 11) 10 (nI (j + 1))) tp n p := A4.s (Or.inl rfl)
    have eI : itF tp n p 59 = if tK tp n p = 3 then 0 else 2 := rfl
    have tf : pX6_tokenFault E g h4 (B + 11) = if tK tp n p = 0 then some (1, g, h4) else some (itF tp n p 59, g, sI h4 (B + 11) 10 (nI (j + 1))) := by
      unfold pX6_tokenFault
      rw [w_tg T.1, A4.2.2.2.2.2]
      by_cases w : tK tp n p = 0
      · rw [if_pos w, if_pos w]
        exact w_gq (pr := fun z : Int32 × MT × CT => z.2.1) mono
      · have fol : pX6_follow E g h4 (B + 11) = some (itF tp n p 59, sI h4 (B + 11) 10 (nI (j + 1))) := by
          unfold pX6_follow
          rw [w_tg T.1, w_lt, s9, w_nn, w_tg T61, k10, k_chr K hfi hj, w_bd2, w_lt, k10, nI_1, ec, if_neg (by decide)]
          unfold pX6_follow_b95
          rw [if_neg (by decide), if_pos rfl, A5.2.2.2.2.2, eI]
          by_cases t : tK tp n p = 3
          · rw [if_pos t, if_pos t]
          · rw [if_neg t, if_neg t]
        rw [if_neg w, if_neg w, w_lt, s9, w_nn, w_tg T61, k_len K hfi, w_bd, k10, if_neg (nI_ge hj (by omega)), fol, w_bd2]
        exact w_gq (pr := fun z : Int32 × MT × CT => z.2.1) mono
    have eF : fF tp n p 59 = if tK tp n p = 0 then 1 else itF tp n p 59 := by unfold fF; rw [if_pos sn]
    have x4 : WF1 B (B + 11) h h4 := q5.w
    have x6 : WF1 B (B + 11) h (sI h4 (B + 11) 10 (nI (j + 1))) := x4.s (by decide)
    by_cases f0 : fF tp n p 59 = 0
    · have nk : ¬ tK tp n p = 0 := fun w => by rw [eF, if_pos w] at f0; exact absurd f0 (by decide)
      have i0 : itF tp n p 59 = 0 := by rw [eF, if_neg nk] at f0; exact f0
      rw [if_neg nk, i0] at tf
      have st0 := fun f R => qT sn 0 g _ f R tf T.1
      rw [if_pos rfl] at st0
      have xe : WF1 B (B + 11) h (sI (sI (sI h4 (B + 11) 10 (nI (j + 1))) (B + 11) 0 0) (B + 11) 1 (-1)) := (x6.s (by decide)).s (by decide)
      exact ⟨_, xe, Or.inl ⟨f0, ⟨kt _ xe, el.2.1, by rw [hI_sI, if_pos rfl, ud_n (by decide), hI_sI, if_pos rfl, ud_n (by decide), hI_sI, if_pos rfl, ud_n (by decide)]; exact q3, by rw [hI_sI, if_pos rfl, ud_n (by decide), hI_s], by rw [hI_s], by rw [xe.1]; exact r7, by rw [xe.1]; exact r8, by rw [xe.1]; exact r9, hfi, by rw [hI_sI, if_pos rfl, ud_n (by decide), hI_sI, if_pos rfl, ud_n (by decide), hI_s], by rw [xe.1]; exact r11⟩, st0⟩⟩
    · obtain ⟨h9, e9, x9, f4⟩ : ∃ h9, pX6_tokenFault E g h4 (B + 11) = some (fF tp n p 59, g, h9) ∧ WF1 B (B + 11) h h9 ∧ hI h9 (B + 11) 4 = nI (tS tp n p) := by
        by_cases nk : tK tp n p = 0
        · rw [if_pos nk] at tf eF
          exact ⟨h4, by rw [tf, eF], x4, q2⟩
        · rw [if_neg nk] at tf eF
          exact ⟨_, by rw [tf, eF], x6, by rw [hI_sI, if_pos rfl, ud_n (by decide)]; exact q2⟩
      have st9 := fun f R => qT sn _ g _ f R e9 T.1
      rw [if_neg f0] at st9
      have xe : WF1 B (B + 11) h (sI (sI h9 (B + 11) 0 (fF tp n p 59)) (B + 11) 1 (hI h9 (B + 11) 4)) := (x9.s (by decide)).s (by decide)
      refine ⟨_, xe, Or.inr ⟨f0, by rw [hI_sI, if_pos rfl, ud_n (by decide), hI_s], by rw [hI_s, f4], fun f => ?_⟩⟩
      exact st9 (f + 1) _ (k_bad2 (kt _ xe) (by rw [hI_sI, if_pos rfl, ud_n (by decide), hI_s]; exact f0) f _) mono
  · have eF : fF tp n p 59 = 2 := by unfold fF; rw [if_neg sn]
    have eS : tS tp n p = n := by omega
    refine ⟨sI (sI h4 (B + 11) 0 2) (B + 11) 1 (nI n), ((q5.w).s (by decide)).s (by decide), Or.inr ⟨by rw [eF]; decide, by rw [hI_sI, if_pos rfl, ud_n (by decide), hI_s, eF], by rw [hI_s, eS], fun f => ?_⟩⟩
    rw [qE sn (f + 1)]
    exact k_short K T4 k0 s9 hfi k10 hj
end BEG
