/-! strips and the whole text, in both -/
section STL
variable {B b L : Nat} {E : EC} {xs : Nat → Int32} {op st bt : Nat → Nat} {aL aS aO : Nat} {g g' g0 gr : MT} {h h' h0 h1 h2 hr hr' hr0 : CT} {tp : Nat → Int32} {n p p1 pg ci fi j i m k0 s F : Nat} {p2 wi q1 kf a : Int32} {cur opn so : Option Nat} {kd : Nat → Nat} {vv : Nat → Nat → Int32} {row : Nat → Int32} {fO : CT → Nat → Int32 → Option CT}
/-- the text ends between two INSTRUCTIONS -/
theorem k_last (K : EOK E b L xs op st bt aL aS aO) (X : KL B st g h tp n p pg cur fi (stB fi).length opn) (sn : ¬ tS tp n p < n) (hi : i ≤ n) :
    ∃ h', (∀ a, a ≠ B + 11 → Eqa h h' a) ∧ ((opn = none ∧ hI h' (B + 11) 0 = 0 ∧ hI h' (B + 11) 1 = -1 ∧ PL E B p1 p2 i g h (some pg, g, h')) ∨ (opn ≠ none ∧ hI h' (B + 11) 0 = 2 ∧ hI h' (B + 11) 1 = nI n ∧ PL E B p1 p2 i g h (none, g, h'))) := by
  obtain ⟨T, hp, e5, e0, e1, r7, r8, r9, hfi, e10, r11⟩ := X
  have n900 := T.2.2.2.2.2.2
  have fu : 1000 < FUEL := by decide
  have l7 := stb_len fi hfi
  have T61 := (K.2.2.1 fi hfi).1
  obtain ⟨h4, q5, T4, q2, q3, qA, qE, qT⟩ := k_step (E := E) (p1 := p1) (p2 := p2) (i := i) T hp e5 e0 hi
  have k0 : hI h4 (B + 11) 0 = 0 := by rw [q5.2.2.1 0 (by decide) (by decide) (by decide)]; exact e0
  have k1 : hI h4 (B + 11) 1 = -1 := by rw [q5.2.2.1 1 (by decide) (by decide) (by decide)]; exact e1
  have k10 : hI h4 (B + 11) 10 = nI (stB fi).length := by rw [q5.2.2.1 10 (by decide) (by decide) (by decide)]; exact e10
  have s7 : hR h4 (B + 11) 7 = some pg := by rw [q5.1]; exact r7
  have s9 : hR h4 (B + 11) 9 = some (st fi) := by rw [q5.1]; exact r9
  have s11 : hR h4 (B + 11) 11 = opn := by rw [q5.1]; exact r11
  have qe := qE sn (FUEL - i - 1)
  rw [show FUEL - i - 1 + 1 = FUEL - i by omega] at qe
  have b119 : pX6_parse_b119 E (B + 11) p1 p2 g h4 = if opn = none then pX6_parse_b160 E (B + 11) p1 p2 g h4 else pX6_parse_b147 E (B + 11) p1 p2 g h4 := by
    unfold pX6_parse_b119
    rw [w_tg T.1, k0, if_pos rfl, w_lt, s9, w_nn, w_tg T61, k_len K hfi, w_bd, k10, if_neg (nI_nlt (Nat.le_refl _) (by omega)), w_lt, s11]
  have mono : gN g ≤ gN g ∧ gU g ≤ gU g := ⟨Nat.le_refl _, Nat.le_refl _⟩
  by_cases c : opn = none
  · refine ⟨h4, fun a ha => q5.2.1 a ha, Or.inl ⟨c, k0, k1, ?_, mono⟩⟩
    rw [qe, b119, if_pos c]
    unfold pX6_parse_b160
    rw [w_tg T.1, k0, if_pos rfl, w_lt, s7]
  · refine ⟨sI (sI h4 (B + 11) 0 2) (B + 11) 1 (nI n), fun a ha => ((q5.2.1 a ha).sI ha).sI ha, Or.inr ⟨c, by rw [hI_sI, if_pos rfl, ud_n (by decide), hI_s], by rw [hI_s], ?_, mono⟩⟩
    rw [qe, b119, if_neg c]
    unfold pX6_parse_b147 pX6_parse_b160
    rw [w_tg T.1, w_lt, w_lt, w_tg T.1, if_neg (by rw [hI_sI, if_pos rfl, ud_n (by decide), hI_s]; decide), hI_sI, if_pos rfl, ud_n (by decide), T4.2.2.2.2.2.1]
theorem CF.step (D : CF E B p1 p2 g0 h0 j g' h' kf a) (s : ∀ R, PL E B p1 p2 j g' h' R → PL E B p1 p2 i g h R) : CF E B p1 p2 g0 h0 i g h kf a := by
  obtain ⟨g1, h1, m1, d1, d2⟩ := D
  exact ⟨g1, h1, m1, s _ d1, d2⟩
theorem CB.fr (F : CB B g0 h0 g h m) (e : ∀ a, a < gN g0 → a ≠ B + 11 → Eqa h h' a) : CB B g0 h0 g h' m := ⟨F.1, F.2.1, F.2.2.1, F.2.2.2.1, F.2.2.2.2.1, fun a ha hb => (F.2.2.2.2.2 a ha hb).tr (e a ha hb)⟩
theorem end_no (sn : ¬ tS tp n p < n) (h0 : k0 < 29) (U : ∀ k, k < 28 → (isT tp n p (nmB k) ↔ k = k0)) : k0 = 28 := Nat.le_antisymm (by omega) (Nat.not_lt.mp fun w => sn (isT_in (nm_lt k0 (by omega)).1 ((U k0 (by omega)).mpr rfl)).1)
/-- the text ends in a strip -/
theorem strip_last (K : EOK E b L xs op st bt aL aS aO) (X : BS B op st g0 h0 hr0 gr tp n (some s) m kd vv p i g h hr) (sn : ¬ tS tp n p < n) (f : Nat) :
    CF E B p1 p2 g0 h0 i g h 2 (nI n) ∧ RF B hr0 gr tp n (pX13_readCode_o_l140 gr (pX13_readCode_r gr (F + 1)) (B + 187) wi (f + 2) 25 (nI (990 + 8 * s)) hr) 2 (nI n) := by
  obtain ⟨⟨cur, fi, C⟩, I, G, hip, A, H, P, V⟩ := X
  have hp := C.2.1
  have sl := tS_le (tp := tp) hp
  have es : tS tp n p = n := by omega
  obtain ⟨k0, h29, U⟩ := nm_ex tp n p
  have k28 := end_no sn h29 U
  obtain ⟨v1, -, -⟩ := V.2.2 s rfl
  have m30 := G.2.2.2.1
  constructor
  · obtain ⟨h', ea, r⟩ := k_last (E := E) (p1 := p1) (p2 := p2) K C sn (show i ≤ n by omega)
    rcases r with ⟨w, -⟩ | ⟨-, e0, e1, y⟩
    · exact absurd w (by simp)
    · exact ⟨g, h', m, y, e0, e1, G.fr fun a _ hb => ea a hb⟩
  · have ie := (m_named A.1 h29 U).2
    rw [if_neg (by omega)] at ie
    have hd := r_head (fO := pX13_readCode_r gr F) (wi := 1) (ins := true) A h29 U P.1 m30 rfl (fun z => by omega)
    have e2 : hF tp n p k0 m true = 2 := if_neg sn
    rw [e2] at hd
    obtain ⟨-, h', q1, q2, q3⟩ := hd.resolve_right (fun z => absurd z.1 (by decide))
    rw [es] at q2
    have hO : pX13_readCode_r gr (F + 1) hr (B + 187) 1 = some h' := q1
    refine ⟨_, ?_, q2.c (x := hI h' (B + 192) 989) (j := 990 + 8 * s + 7), (H.tr q3.f).c ⟨by omega, by omega⟩⟩
    rw [pX13_readCode_o_l140, pX13_readCode_o_b140, if_pos rfl, A.2, if_pos rfl, ie, w_bd, if_pos rfl, hO, w_bd]
    exact r_finD q2 (by omega) f
theorem VI.done {row' : Nat → Int32} (V : VI row m kd vv (some s)) (hm : m ≤ 30) (er : ∀ x, x ≠ 990 + 8 * s + 7 → row' x = row x) (e7 : row' (990 + 8 * s + 7) = nI m) : VI row' m kd (ud vv s (ud (vv s) 9 (nI m))) none := by
  obtain ⟨v1, v2, v3⟩ := V
  obtain ⟨s1, s2, s3⟩ := v3 s rfl
  refine ⟨fun k hk => ?_, fun k hk e25 _ => ?_, fun x hx => by cases hx⟩
  · obtain ⟨a1, a2, a3⟩ := v1 k hk
    by_cases c : k = s
    · subst c
      rw [ud_s]
      exact ⟨a1, fun f f1 f8 => by rw [ud_n (by omega)]; exact a2 f f1 f8, fun w => absurd s2 w⟩
    · rw [ud_n c]; exact ⟨a1, a2, a3⟩
  · by_cases c : k = s
    · subst c
      rw [ud_s]
      exact ⟨m, ud_s _ _ _, s1, Nat.le_refl _, e7, s3⟩
    · rw [ud_n c]
      obtain ⟨e, a1, a2, a3, a4, a5⟩ := v2 k hk e25 (fun w => c (Option.some.inj w))
      exact ⟨e, a1, a2, a3, by rw [er _ (by omega)]; exact a4, a5⟩
/-- the end of a strip -/
theorem strip_end (K : EOK E b L xs op st bt aL aS aO) (X : BS B op st g0 h0 hr0 gr tp n (some s) m kd vv p i g h hr) (G0 : B + 205 ≤ gN g0) (U : ∀ k, k < 28 → (isT tp n p (nmB k) ↔ k = 27)) (f : Nat) :
    (∃ kf a, CF E B p1 p2 g0 h0 i g h kf a ∧ RF B hr0 gr tp n (pX13_readCode_o_l140 gr fO (B + 187) wi (f + 1) 25 (nI (990 + 8 * s)) hr) kf a)
      ∨ ∃ m' kd' vv' p' i' g' h' hr', p < p' ∧ BS B op st g0 h0 hr0 gr tp n none m' kd' vv' p' i' g' h' hr' ∧ (∀ R, PL E B p1 p2 i' g' h' R → PL E B p1 p2 i g h R) ∧ pX13_readCode_o_l140 gr fO (B + 187) wi (f + 1) 25 (nI (990 + 8 * s)) hr = some hr' := by
  obtain ⟨⟨cur, fi, C⟩, I, G, hip, A, H, P, V⟩ := X
  have hp := C.2.1
  have n900 := C.1.2.2.2.2.2.2
  have sl := tS_le (tp := tp) hp
  have el := tE_le (tp := tp) hp
  have S := A.1.1.1
  have t27 : isT tp n p (nmB 27) := (U 27 (by decide)).mpr rfl
  obtain ⟨sn, tk⟩ := isT_in (nm_lt 27 (by decide)).1 t27
  have tlt := el.2.2 sn
  obtain ⟨s1, s2, s3⟩ := V.2.2 s rfl
  obtain ⟨c1, c2, c3, c4, c5, c6⟩ := id I
  obtain ⟨Z, f1, f2, f3, f4, f5⟩ := id G
  have kb := k_begin (E := E) (p1 := p1) (p2 := p2) (i := i) (k0 := 27) K C Z c1 c2 c3 c4 c5 f3 (fun x hx => by
    have e := Option.some.inj hx
    rw [← e]
    exact (c6 s s1).2.1) (by omega) sn (by decide) U
  have b0 : bF tp n p 27 m ((some s).map (fun s => gN g0 + 2 + s)).isSome = 0 := by
    unfold bF
    rw [if_neg (by rw [tk]; decide), if_neg (by rintro (w | w); exact absurd w (by decide); exact absurd w.2 (by simp)), if_pos rfl]
  obtain ⟨h1, kb⟩ := kb
  obtain ⟨-, -, so', eso, X1, a1, a2, a3, st1⟩ := (kb.resolve_left (fun z => z.1 b0)).resolve_left (fun z => absurd z.2.1 (by decide))
  have eso' : gN g0 + 2 + s = so' := Option.some.inj eso
  subst eso'
  have PL1 : ∀ R, PL E B p1 p2 (i + 1) g h1 R → PL E B p1 p2 i g h R := fun R y => PL.step (by omega) st1 y
  have el27 : stB (opD 27).2.2.1 = [59] := (frm 27 (by decide)).1
  have ll : (stB (opD 27).2.2.1).length = 1 := by rw [el27]; rfl
  obtain ⟨h2, w2, r⟩ := k_sign (E := E) (p1 := p1) (p2 := p2) (i := i + 1) K X1 (by rw [ll]; decide) (by rw [el27]; rfl) (by omega)
  -- the reference
  have ie := (m_named A.1 (show 27 < 29 by decide) U).2
  rw [if_pos rfl] at ie
  obtain ⟨hr1, q1, q2, q3⟩ := m_must A 1
  have A1 := (q2.resolve_right (fun z => absurd z.1 (by decide))).2
  obtain ⟨hr2, q4, q5, q6⟩ := m_sgn A1
  have T2 : QT B gr hr2 tp n := q5.elim (fun z => z.2.1.1) (fun z => z.2.1)
  have row2 : ∀ x, hI hr2 (B + 192) x = hI hr (B + 192) x := fun x => by rw [(q6.2.1 (B + 192) (by omega)).1, (q3.2.1 (B + 192) (by omega)).1]
  have b196 : ∀ v, pX13_must gr hr1 (B + 187) v = some hr2 → pX13_readCode_o_b196 gr fO (B + 187) wi (nI (990 + 8 * s)) (B + 187) v hr1 = some (sI hr2 (B + 192) (990 + 8 * s + 7) (nI m)) := fun v hv => by
    unfold pX13_readCode_o_b196
    rw [w_tg (st_187 S), hv, w_bd, r_b199 T2 (by omega), row2, P.1]
  have ref : pX13_readCode_o_l140 gr fO (B + 187) wi (f + 1) 25 (nI (990 + 8 * s)) hr = some (sI hr2 (B + 192) (990 + 8 * s + 7) (nI m)) := by
    rw [pX13_readCode_o_l140, pX13_readCode_o_b140, if_pos rfl, A.2, if_pos rfl, ie, w_bd, if_neg (by decide), pX13_readCode_o_b168, if_pos rfl, ie, w_bd, q1, w_bd]
    by_cases c : hI hr1 (B + 187) 14 = 3
    · rw [if_pos c] at q4 ⊢
      exact b196 1 q4
    · rw [if_neg c] at q4 ⊢
      exact b196 0 q4
  have HH : HFr B hr0 (sI hr2 (B + 192) (990 + 8 * s + 7) (nI m)) := ((H.tr q3.f).tr q6.f).c ⟨by omega, by omega⟩
  have EA : ∀ a, a ≠ B + 11 → a ≠ gN g0 + 2 + s → Eqa h h2 a := fun a x1 x2 => (a3 a x1 x2).tr (w2.2.1 a x1 x1)
  have CB2 : CB B g0 h0 g h2 m := G.fr fun a ha hb => EA a hb (by omega)
  rcases r with ⟨r1, r2, r3⟩ | ⟨r1, r2, r3, r4⟩
  · have A2 := (q5.resolve_right (fun z => z.1 r1)).2
    have t2 := (tE_le (tp := tp) X1.2.1).2.2 (fF_in r1)
    have s2' := tS_le (tp := tp) X1.2.1
    refine Or.inr ⟨m, kd, ud vv s (ud (vv s) 9 (nI m)), tE tp n (tE tp n p), i + 2, g, h2, _, by omega, ⟨⟨none, (opD 27).2.2.1, by rw [ll]; exact r2⟩, ⟨c1, by rw [w2.1, (a3 (gN g0) (by omega) (by omega)).2.2.2]; exact c2, c3, c4, by rw [(EA (gN g0) (by omega) (by omega)).1]; exact c5, fun k hk => ?_⟩, CB2, by omega, A2.c, HH, ⟨?_, fun k hk => ?_, fun x x1 x2 => ?_⟩, V.done f3 (fun x hx => by rw [hI_sI, if_pos rfl, ud_n hx, row2]) (by rw [hI_s])⟩, fun R y => PL1 R (PL.step (by omega) r3 y), ref⟩
    · obtain ⟨d1, d2, d3, d4⟩ := c6 k hk
      rw [w2.1, (a3 (gN g0 + 1) (by omega) (by omega)).2.2.2]
      by_cases c : k = s
      · subst c
        rw [a2, (w2.2.1 (gN g0 + 2 + k) (by omega) (by omega)).1, a1, d4, ud_s]
        exact ⟨d1, d2, d3, rfl⟩
      · rw [(a3 (gN g0 + 2 + k) (by omega) (by omega)).2.2.2, (EA (gN g0 + 2 + k) (by omega) (by omega)).1, ud_n c]
        exact ⟨d1, d2, d3, d4⟩
    · rw [hI_sI, if_pos rfl, ud_n (by omega), row2]; exact P.1
    · obtain ⟨d1, d2⟩ := P.2.1 k hk
      refine ⟨by rw [hI_sI, if_pos rfl, ud_n (by omega), row2]; exact d1, fun y y1 y6 => ?_⟩
      rw [hI_sI, if_pos rfl, ud_n (by omega), row2, d2 y y1 y6]
      by_cases c : k = s
      · rw [c, ud_s, lay_9 _ _ _ y6]
      · rw [ud_n c]
    · rw [hI_sI, if_pos rfl, ud_n (by omega), row2]; exact P.2.2 x x1 x2
  · have D2 := (q5.resolve_left (fun z => r1 z.1)).2
    exact Or.inl ⟨_, _, ⟨g, h2, m, PL1 _ (PL.bad (by omega) r4), r2, r3, CB2⟩, _, ref, D2.c, HH⟩
theorem strip_loop (K : EOK E b L xs op st bt aL aS aO) (G0 : B + 205 ≤ gN g0) : ∀ (d f m : Nat) (kd : Nat → Nat) (vv : Nat → Nat → Int32) (p i : Nat) (g : MT) (h hr : CT), n - p ≤ d → d + 1 < f → BS B op st g0 h0 hr0 gr tp n (some s) m kd vv p i g h hr →
    (∃ kf a, CF E B p1 p2 g0 h0 i g h kf a ∧ RF B hr0 gr tp n (pX13_readCode_o_l140 gr (pX13_readCode_r gr (F + 1)) (B + 187) wi f 25 (nI (990 + 8 * s)) hr) kf a)
      ∨ ∃ m' kd' vv' p' i' g' h' hr', p < p' ∧ BS B op st g0 h0 hr0 gr tp n none m' kd' vv' p' i' g' h' hr' ∧ (∀ R, PL E B p1 p2 i' g' h' R → PL E B p1 p2 i g h R) ∧ pX13_readCode_o_l140 gr (pX13_readCode_r gr (F + 1)) (B + 187) wi f 25 (nI (990 + 8 * s)) hr = some hr' := by
  intro d
  induction d with
  | zero =>
    intro f m kd vv p i g h hr hd hf X
    obtain ⟨f, rfl⟩ : ∃ f', f = f' + 2 := ⟨f - 2, by omega⟩
    have hp : p ≤ n := by obtain ⟨⟨_, _, C⟩, _⟩ := X; exact C.2.1
    have sl := tS_le (tp := tp) hp
    exact Or.inl ⟨2, nI n, strip_last K X (by omega) f⟩
  | succ d ih =>
    intro f m kd vv p i g h hr hd hf X
    obtain ⟨f, rfl⟩ : ∃ f', f = f' + 2 := ⟨f - 2, by omega⟩
    by_cases sn : tS tp n p < n
    · obtain ⟨k0, h29, U⟩ := nm_ex tp n p
      by_cases k27 : k0 = 27
      · subst k27
        exact strip_end K X G0 U (f + 1)
      · have ie : pX13_isEnd gr hr (B + 187) = some 0 := by
          obtain ⟨-, -, -, -, A, -⟩ := X
          have := (m_named A.1 h29 U).2
          rwa [if_neg k27] at this
        have e12 : hI hr (B + 187) 12 = 0 := X.2.2.2.2.1.2
        have s30 : s < m ∧ m ≤ 30 := ⟨(X.2.2.2.2.2.2.2.2.2 s rfl).1, X.2.2.1.2.2.2.1⟩
        have top : pX13_readCode_o_l140 gr (pX13_readCode_r gr (F + 1)) (B + 187) wi (f + 2) 25 (nI (990 + 8 * s)) hr = bd (pX13_readCode_o gr (pX13_readCode_r gr F) hr (B + 187) 1) fun h6 => pX13_readCode_o_l140 gr (pX13_readCode_r gr (F + 1)) (B + 187) wi (f + 1) 25 (nI (990 + 8 * s)) h6 := by
          rw [pX13_readCode_o_l140, pX13_readCode_o_b140, if_pos rfl, e12, if_pos rfl, ie, w_bd, if_pos rfl]
          rfl
        have o := one_ins (E := E) (p1 := p1) (p2 := p2) (wi := 1) (fO := pX13_readCode_r gr F) K X G0 rfl sn h29 U (fun z => k27 z.1)
        rcases o with ⟨kf, a, o1, hr', o2, o3, o4⟩ | ⟨p', i', g', h', hr', kd', vv', o1, o2, o3, o4⟩ | ⟨o1, -⟩
        · refine Or.inl ⟨kf, a, o1, _, ?_, o3.c (x := hI hr' (B + 192) 989) (j := 990 + 8 * s + 7), o4.c ⟨by omega, by omega⟩⟩
          rw [top, o2, w_bd]
          exact r_finD o3 (by omega) f
        · rw [top, o4, w_bd]
          rcases ih (f + 1) (m + 1) kd' vv' p' i' g' h' hr' (by omega) (by omega) o2 with ⟨kf, a, u1, u2⟩ | ⟨m2, kd2, vv2, p2', i2, g2, h2, hr2, u1, u2, u3, u4⟩
          · exact Or.inl ⟨kf, a, u1.step o3, u2⟩
          · exact Or.inr ⟨m2, kd2, vv2, p2', i2, g2, h2, hr2, by omega, u2, fun R y => o3 R (u3 R y), u4⟩
        · cases o1
    · exact Or.inl ⟨2, nI n, strip_last K X sn f⟩
/-- all of the text -/
theorem top_loop (K : EOK E b L xs op st bt aL aS aO) (G0 : B + 205 ≤ gN g0) : ∀ (d f m : Nat) (kd : Nat → Nat) (vv : Nat → Nat → Int32) (p i : Nat) (g : MT) (h hr : CT), n - p ≤ d → d + 1 < f → BS B op st g0 h0 hr0 gr tp n none m kd vv p i g h hr →
    (∃ kf a, CF E B p1 p2 g0 h0 i g h kf a ∧ ∃ hr', pX13_program_l80 gr (B + 187) q1 f hr = pX13_program_b102 gr (B + 187) q1 hr' ∧ DE B gr hr' tp n kf a ∧ HFr B hr0 hr')
      ∨ ∃ m' kd' vv' g' h' hr', PL E B p1 p2 i g h (some (gN g0), g', h') ∧ hI h' (B + 11) 0 = 0 ∧ hI h' (B + 11) 1 = -1 ∧ CI op g' h' (gN g0) m' kd' vv' ∧ CB B g0 h0 g' h' m' ∧ pX13_program_l80 gr (B + 187) q1 f hr = pX13_program_b102 gr (B + 187) q1 hr' ∧ QT B gr hr' tp n ∧ hI hr' (B + 187) 12 = 0 ∧ HFr B hr0 hr' ∧ PI (hI hr' (B + 192)) m' kd' vv' ∧ VI (hI hr' (B + 192)) m' kd' vv' none := by
  have last : ∀ (f m : Nat) (kd : Nat → Nat) (vv : Nat → Nat → Int32) (p i : Nat) (g : MT) (h hr : CT), ¬ tS tp n p < n → BS B op st g0 h0 hr0 gr tp n none m kd vv p i g h hr → ∃ m' kd' vv' g' h' hr', PL E B p1 p2 i g h (some (gN g0), g', h') ∧ hI h' (B + 11) 0 = 0 ∧ hI h' (B + 11) 1 = -1 ∧ CI op g' h' (gN g0) m' kd' vv' ∧ CB B g0 h0 g' h' m' ∧ pX13_program_l80 gr (B + 187) q1 (f + 1) hr = pX13_program_b102 gr (B + 187) q1 hr' ∧ QT B gr hr' tp n ∧ hI hr' (B + 187) 12 = 0 ∧ HFr B hr0 hr' ∧ PI (hI hr' (B + 192)) m' kd' vv' ∧ VI (hI hr' (B + 192)) m' kd' vv' none := fun f m kd vv p i g h hr sn X => by
    obtain ⟨⟨cur, fi, C⟩, I, G, hip, A, H, P, V⟩ := X
    have hp := C.2.1
    obtain ⟨h', ea, r⟩ := k_last (E := E) (p1 := p1) (p2 := p2) K C sn (show i ≤ n by omega)
    rcases r with ⟨-, e0, e1, y⟩ | ⟨w, -⟩
    · refine ⟨m, kd, vv, g, h', hr, y, e0, e1, ⟨I.1, by rw [(ea (gN g0) (by omega)).2.2.2]; exact I.2.1, I.2.2.1, I.2.2.2.1, by rw [(ea (gN g0) (by omega)).1]; exact I.2.2.2.2.1, fun k hk => ?_⟩, G.fr fun a _ hb => ea a hb, ?_, A.1.1, A.2, H, P, V⟩
      · rw [(ea (gN g0 + 1) (by omega)).2.2.2, (ea (gN g0 + 2 + k) (by omega)).2.2.2, (ea (gN g0 + 2 + k) (by omega)).1]
        exact I.2.2.2.2.2 k hk
      · have eT : rT tp n p = 0 := by unfold rT; rw [if_neg sn]
        rw [pX13_program_l80, pX13_program_b80, A.2, if_pos rfl, A.1.2.2.2.2.1, eT, if_pos rfl]
    · exact absurd rfl w
  intro d
  induction d with
  | zero =>
    intro f m kd vv p i g h hr hd hf X
    obtain ⟨f, rfl⟩ : ∃ f', f = f' + 2 := ⟨f - 2, by omega⟩
    have hp : p ≤ n := by obtain ⟨⟨_, _, C⟩, _⟩ := X; exact C.2.1
    have sl := tS_le (tp := tp) hp
    exact Or.inr (last (f + 1) m kd vv p i g h hr (by omega) X)
  | succ d ih =>
    intro f m kd vv p i g h hr hd hf X
    obtain ⟨f, rfl⟩ : ∃ f', f = f' + 2 := ⟨f - 2, by omega⟩
    by_cases sn : tS tp n p < n
    · obtain ⟨k0, h29, U⟩ := nm_ex tp n p
      have e12 : hI hr (B + 187) 12 = 0 := X.2.2.2.2.1.2
      have e14 : ¬ hI hr (B + 187) 14 = 0 := by
        rw [X.2.2.2.2.1.1.2.2.2.2.1]
        unfold rT
        rw [if_pos sn]
        by_cases c : tK tp n p = 0
        · rw [if_pos c]; decide
        · rw [if_neg c]; exact c
      have m30 : m ≤ 30 := X.2.2.1.2.2.2.1
      have hp : p ≤ n := by obtain ⟨⟨_, _, C⟩, _⟩ := X; exact C.2.1
      have n9 : n ≤ 900 := X.2.2.2.2.1.1.1.2.2.2.2.2
      have fu : 1000 < FUEL := by decide
      have top : pX13_program_l80 gr (B + 187) q1 (f + 2) hr = bd (pX13_readCode_o gr (pX13_readCode_r gr (38 + 1)) hr (B + 187) 0) fun h3 => pX13_program_l80 gr (B + 187) q1 (f + 1) h3 := by
        rw [pX13_program_l80, pX13_program_b80, e12, if_pos rfl, if_neg e14]
        rfl
      have dead : ∀ hr' kf a, DE B gr hr' tp n kf a → pX13_program_l80 gr (B + 187) q1 (f + 1) hr' = pX13_program_b102 gr (B + 187) q1 hr' := fun hr' kf a D => by
        rw [pX13_program_l80, pX13_program_b80, if_neg D.pos.2]
      have o := one_ins (E := E) (p1 := p1) (p2 := p2) (wi := 0) (fO := pX13_readCode_r gr (38 + 1)) K X G0 rfl sn h29 U (fun z => absurd z.2 (by decide))
      rcases o with ⟨kf, a, o1, hr', o2, o3, o4⟩ | ⟨p', i', g', h', hr', kd', vv', o1, o2, o3, o4⟩ | ⟨-, p', i', g', h', hr', kd', vv', o1, o2, o3, o4⟩
      · exact Or.inl ⟨kf, a, o1, hr', by rw [top, o2, w_bd, dead hr' kf a o3], o3, o4⟩
      · rw [top, o4, w_bd]
        rcases ih (f + 1) (m + 1) kd' vv' p' i' g' h' hr' (by omega) (by omega) o2 with ⟨kf, a, u1, u2⟩ | ⟨m2, kd2, vv2, g2, h2, hr2, u1, u2⟩
        · exact Or.inl ⟨kf, a, u1.step o3, u2⟩
        · exact Or.inr ⟨m2, kd2, vv2, g2, h2, hr2, o3 _ u1, u2⟩
      · rw [top, o4]
        rcases strip_loop (E := E) (p1 := p1) (p2 := p2) (F := 38) (wi := 0) (s := m) K G0 (n - p') FUEL (m + 1) kd' vv' p' i' g' h' hr' (Nat.le_refl _) (by omega) o2 with ⟨kf, a, u1, hr2, u2, u3, u4⟩ | ⟨m2, kd2, vv2, p2', i2, g2, h2, hr2, u1, u2, u3, u4⟩
        · rw [u2, w_bd, dead hr2 kf a u3]
          exact Or.inl ⟨kf, a, u1.step o3, hr2, rfl, u3, u4⟩
        · rw [u4, w_bd]
          rcases ih (f + 1) m2 kd2 vv2 p2' i2 g2 h2 hr2 (by omega) (by omega) u2 with ⟨kf, a, y1, y2⟩ | ⟨m3, kd3, vv3, g3, h3, hr3, y1, y2⟩
          · exact Or.inl ⟨kf, a, (y1.step u3).step o3, y2⟩
          · exact Or.inr ⟨m3, kd3, vv3, g3, h3, hr3, o3 _ (u3 _ y1), y2⟩
    · exact Or.inr (last (f + 1) m kd vv p i g h hr sn X)
end STL
