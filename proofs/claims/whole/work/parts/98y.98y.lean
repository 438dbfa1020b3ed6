/-! one INSTRUCTION, in both -/
section ONE
variable {B b L : Nat} {E : EC} {xs : Nat → Int32} {op st bt : Nat → Nat} {aL aS aO : Nat} {g g' g0 gr : MT} {h h' h0 h1 h2 hr hr' hr0 : CT} {tp : Nat → Int32} {n p p1 pg ci fi j i m k0 s : Nat} {p2 wi : Int32} {cur opn so : Option Nat} {kd : Nat → Nat} {vv : Nat → Nat → Int32} {row : Nat → Int32} {fO : CT → Nat → Int32 → Option CT}
/-- the class's PROGRAM so far -/
def CI (op : Nat → Nat) (g : MT) (h : CT) (pg m : Nat) (kd : Nat → Nat) (vv : Nat → Nat → Int32) : Prop := gT g pg = 6 ∧ hR h pg 0 = some (pg + 1) ∧ gT g (pg + 1) = 25 ∧ gL g (pg + 1) = 30 ∧ hI h pg 1 = nI m ∧ ∀ k, k < m → hR h (pg + 1) k = some (pg + 2 + k) ∧ gT g (pg + 2 + k) = 2 ∧ hR h (pg + 2 + k) 0 = some (op (kd k)) ∧ hI h (pg + 2 + k) = vv k
/-- what has been made since g0 -/
def CB (B : Nat) (g0 : MT) (h0 : CT) (g : MT) (h : CT) (m : Nat) : Prop := TZ g ∧ gN g = gN g0 + 2 + m ∧ gU g = gU g0 + 32 + 10 * m ∧ m ≤ 30 ∧ (∀ a, a < gN g0 → gT g a = gT g0 a ∧ gL g a = gL g0 a) ∧ ∀ a, a < gN g0 → a ≠ B + 11 → Eqa h0 h a
/-- the reference's -/
def PI (row : Nat → Int32) (m : Nat) (kd : Nat → Nat) (vv : Nat → Nat → Int32) : Prop := row 989 = nI m ∧ (∀ k, k < m → row (990 + 8 * k) = nI (kd k) ∧ ∀ y, 1 ≤ y → y ≤ 6 → row (990 + 8 * k + y) = layv (kd k) (vv k) y) ∧ ∀ x, 990 + 8 * m ≤ x → x < 1230 → row x = 0
/-- the fields, and the strips that are done -/
def VI (row : Nat → Int32) (m : Nat) (kd : Nat → Nat) (vv : Nat → Nat → Int32) (so : Option Nat) : Prop := (∀ k, k < m → kd k < 27 ∧ (∀ f, 1 ≤ f → f ≤ 8 → ∃ x, vv k f = nI x ∧ x ≤ bdM (kd k) f) ∧ (kd k ≠ 25 → vv k 9 = 0))
  ∧ (∀ k, k < m → kd k = 25 → some k ≠ so → ∃ e, vv k 9 = nI e ∧ k < e ∧ e ≤ m ∧ row (990 + 8 * k + 7) = nI e ∧ ∀ j, k < j → j < e → kd j ≠ 25) ∧ ∀ s, so = some s → s < m ∧ kd s = 25 ∧ ∀ j, s < j → j < m → kd j ≠ 25
/-- between two INSTRUCTIONS -/
def BS (B : Nat) (op st : Nat → Nat) (g0 : MT) (h0 hr0 : CT) (gr : MT) (tp : Nat → Int32) (n : Nat) (so : Option Nat) (m : Nat) (kd : Nat → Nat) (vv : Nat → Nat → Int32) (p i : Nat) (g : MT) (h hr : CT) : Prop :=
  (∃ cur fi, KL B st g h tp n p (gN g0) cur fi (stB fi).length (so.map (fun s => gN g0 + 2 + s))) ∧ CI op g h (gN g0) m kd vv ∧ CB B g0 h0 g h m ∧ i ≤ p ∧ LV B gr hr tp n p ∧ HFr B hr0 hr ∧ PI (hI hr (B + 192)) m kd vv ∧ VI (hI hr (B + 192)) m kd vv so
/-- a fault is found in the class -/
def CF (E : EC) (B p1 : Nat) (p2 : Int32) (g0 : MT) (h0 : CT) (i : Nat) (g : MT) (h : CT) (k a : Int32) : Prop := ∃ g' h' m', PL E B p1 p2 i g h (none, g', h') ∧ hI h' (B + 11) 0 = k ∧ hI h' (B + 11) 1 = a ∧ CB B g0 h0 g' h' m'
/-- in the reference -/
def RF (B : Nat) (hr0 : CT) (gr : MT) (tp : Nat → Int32) (n : Nat) (X : Option CT) (k a : Int32) : Prop := ∃ hr', X = some hr' ∧ DE B gr hr' tp n k a ∧ HFr B hr0 hr'
theorem PI.more {row' : Nat → Int32} (P : PI row m kd vv) (e : ∀ x, x ≠ 989 → (x < 990 + 8 * m ∨ 990 + 8 * m + 8 ≤ x) → row' x = row x) (e9 : row' 989 = nI (m + 1)) (ek : row' (990 + 8 * m) = nI k0) {v : Nat → Int32} (ev : ∀ y, 1 ≤ y → y ≤ 6 → row' (990 + 8 * m + y) = layv k0 v y) : PI row' (m + 1) (ud kd m k0) (ud vv m v) := by
  obtain ⟨a1, a2, a3⟩ := P
  refine ⟨e9, fun k hk => ?_, fun x x1 x2 => ?_⟩
  · by_cases c : k = m
    · subst c
      rw [ud_s, ud_s]
      exact ⟨ek, ev⟩
    · rw [ud_n c, ud_n c]
      obtain ⟨b1, b2⟩ := a2 k (by omega)
      exact ⟨by rw [e _ (by omega) (by omega)]; exact b1, fun y y1 y6 => by rw [e _ (by omega) (by omega)]; exact b2 y y1 y6⟩
  · rw [e _ (by omega) (by omega)]
    exact a3 x (by omega) x2
theorem lay_9 (k : Nat) (v : Nat → Int32) (x : Int32) {y : Nat} (h6 : y ≤ 6) : layv k (ud v 9 x) y = layv k v y := by
  unfold layv
  rw [ud_n (show 7 ≠ 9 by decide), ud_n (show 5 ≠ 9 by decide), ud_n (show 6 ≠ 9 by decide), ud_n (show 4 ≠ 9 by decide), ud_n (show 8 ≠ 9 by decide), ud_n (show y ≠ 9 by omega)]
theorem stp_le (q : RQ) (c : Int32) (hq : q.2.1 ≤ n) : q.2.1 ≤ (stp tp n q c).2.1 ∧ (stp tp n q c).2.1 ≤ n := by
  have sl := tS_le (tp := tp) hq
  have el := tE_le (tp := tp) hq
  unfold stp
  by_cases q0 : q.1 = 0
  · rw [if_pos q0]
    by_cases c9 : c = 109
    · rw [if_pos c9]
      by_cases t : isT tp n q.2.1 (stB 1)
      · rw [if_pos t]; exact ⟨by show q.2.1 ≤ tE tp n q.2.1; omega, el.2.1⟩
      · rw [if_neg t]; exact ⟨Nat.le_refl _, hq⟩
    · rw [if_neg c9]
      by_cases f : fF tp n q.2.1 c = 0
      · rw [if_pos f]; exact ⟨by show q.2.1 ≤ tE tp n q.2.1; omega, el.2.1⟩
      · rw [if_neg f]; exact sl
  · rw [if_neg q0]; exact ⟨Nat.le_refl _, hq⟩
theorem rdl_le : ∀ (cs : List Int32) (q : RQ), q.2.1 ≤ n → q.2.1 ≤ (rdl tp n q cs).2.1 := by
  intro cs
  induction cs with
  | nil => intro q _; exact Nat.le_refl _
  | cons c cs ih =>
    intro q hq
    have h := stp_le (tp := tp) q c hq
    exact Nat.le_trans h.1 (ih (stp tp n q c) h.2)
theorem one_ins (K : EOK E b L xs op st bt aL aS aO) (X : BS B op st g0 h0 hr0 gr tp n so m kd vv p i g h hr) (G0 : B + 205 ≤ gN g0) (hwi : wi = if so.isSome = true then 1 else 0) (sn : tS tp n p < n) (h29 : k0 < 29) (U : ∀ k, k < 28 → (isT tp n p (nmB k) ↔ k = k0)) (ne : ¬ (k0 = 27 ∧ so.isSome = true)) :
    (∃ kf a, CF E B p1 p2 g0 h0 i g h kf a ∧ RF B hr0 gr tp n (pX13_readCode_o gr fO hr (B + 187) wi) kf a)
      ∨ (∃ p' i' g' h' hr' kd' vv', p < p' ∧ BS B op st g0 h0 hr0 gr tp n so (m + 1) kd' vv' p' i' g' h' hr' ∧ (∀ R, PL E B p1 p2 i' g' h' R → PL E B p1 p2 i g h R) ∧ pX13_readCode_o gr fO hr (B + 187) wi = some hr')
      ∨ (so = none ∧ ∃ p' i' g' h' hr' kd' vv', p < p' ∧ BS B op st g0 h0 hr0 gr tp n (some m) (m + 1) kd' vv' p' i' g' h' hr' ∧ (∀ R, PL E B p1 p2 i' g' h' R → PL E B p1 p2 i g h R) ∧ pX13_readCode_o gr fO hr (B + 187) wi = pX13_readCode_o_l140 gr fO (B + 187) wi FUEL 25 (nI (990 + 8 * m)) hr') := by
  obtain ⟨⟨cur, fi, C⟩, I, F, hip, A, H, P, V⟩ := X
  obtain ⟨c1, c2, c3, c4, c5, c6⟩ := I
  obtain ⟨Z, f1, f2, f3, f4, f5⟩ := F
  obtain ⟨v1, v2, v3⟩ := V
  have hp := C.2.1
  have n900 := C.1.2.2.2.2.2.2
  have sl := tS_le (tp := tp) hp
  have el := tE_le (tp := tp) hp
  have tlt := el.2.2 sn
  have ins : (so.map (fun s => gN g0 + 2 + s)).isSome = so.isSome := by cases so <;> rfl
  have fu : 1000 < FUEL := by decide
  have kb := k_begin (E := E) (p1 := p1) (p2 := p2) (i := i) K C Z c1 c2 c3 c4 c5 f3 (fun x hx => by
    cases so with
    | none => exact absurd hx (by simp)
    | some s =>
      have e := Option.some.inj hx
      rw [← e]
      exact (c6 s (v3 s rfl).1).2.1) (by omega) sn h29 U
  rw [ins] at kb
  have hFe : hF tp n p k0 m so.isSome = bF tp n p k0 m so.isSome := if_pos sn
  have rh := r_head (fO := fO) A h29 U P.1 f3 hwi ne
  rw [hFe] at rh
  rcases kb with ⟨h', kb⟩
  rcases kb with ⟨bf, e0, e1, ea, s⟩ | ⟨bf, k27, m30, -, X1, a1, a2, a3, a4, a5, a6, s⟩ | ⟨bf, k27, so', e, -⟩
  · obtain ⟨-, hr', q1, q2, q3⟩ := rh.resolve_right (fun z => bf z.1)
    exact Or.inl ⟨_, _, ⟨g, h', m, PL.bad (by omega) s, e0, e1, Z, f1, f2, f3, f4, fun a ha hb => (f5 a ha hb).tr (ea a hb)⟩, hr', q1, q2, H.tr q3.f⟩
  · obtain ⟨-, -, -, -, q0⟩ := rh.resolve_left (fun z => z.1 bf)
    obtain ⟨hr1, q1, q2, q3, q4, q5, q6, q7⟩ := r_code (fO := fO) (wi := wi) A k27 P.1 m30 P.2.2
    rw [q1] at q0
    -- the class reads the form
    obtain ⟨hF', l45⟩ := frm k0 (by omega)
    have gn : gN g = gN g0 + 2 + m := f1
    have hc1 : gN g ≠ B + 11 := by omega
    have hc2 : gN g ≠ B + 10 := by omega
    have tc : gT (gA g 2 10) (gN g) = 2 := by rw [gT_gA, if_pos rfl]
    have l7 := stb_len (opD k0).2.2.1 l45
    obtain ⟨h2, w2, r⟩ := k_form (E := E) (p1 := p1) (p2 := p2) K tc hc1 hc2 (fun j => by
      intro e jl
      exact frP_m k0 (by omega) j (by omega) e jl) _ 0 (i + 1) (tE tp n p) h' X1 rfl (by
      rw [List.drop_zero, hF']
      exact (frP_ok k0 (by omega)).1) (Nat.zero_le _) (by omega)
    have er : rdl tp n (0, tE tp n p, hI h' (gN g)) (stB (opD k0).2.2.1) = rdl tp n (0, tE tp n p, fun _ => 0) (frP k0 ++ [59]) := by rw [a1, hF']
    rw [List.drop_zero, er] at r
    have Z2 : TZ (gA g 2 10) := Z.new 2 10
    have fr2 : ∀ a, a < gN g0 → a ≠ B + 11 → Eqa h0 h2 a := fun a ha hb => ((f5 a ha hb).tr (a6 a hb (by omega) (by omega) (by omega))).tr (w2.2.1 a hb (by omega))
    have tg2 : ∀ a, a < gN g0 → gT (gA g 2 10) a = gT g0 a ∧ gL (gA g 2 10) a = gL g0 a := fun a ha => by
      rw [gT_gA, gL_gA, if_neg (by omega), if_neg (by omega)]
      exact f4 a ha
    have CB2 : CB B g0 h0 (gA g 2 10) h2 (m + 1) := ⟨Z2, by rw [gN_gA, gn]; omega, by rw [gU_gA, f2]; omega, by omega, tg2, fr2⟩
    have mo : ∀ R, PL E B p1 p2 (i + 1) (gA g 2 10) h' R → PL E B p1 p2 i g h R := fun R y => by
      have := s (FUEL - (i + 1)) R y.1 y.2
      rw [show FUEL - (i + 1) + 1 = FUEL - i by omega] at this
      exact ⟨this, Nat.le_trans (Nat.le_succ _) y.2.1, Nat.le_trans (Nat.le_add_right _ _) y.2.2⟩
    have VQ0 : VQ k0 (fun _ => (0 : Int32)) := fun f _ _ => ⟨0, rfl, Nat.zero_le _⟩
    have VQ1 := VQ.rds (tp := tp) (n := n) (k := k0) (by omega) (frP k0 ++ [59]) (0, tE tp n p, fun _ => 0) (fun c hc => hc) VQ0
    have ple : tE tp n p ≤ (rdl tp n (0, tE tp n p, fun _ => 0) (frP k0 ++ [59])).2.1 := rdl_le (frP k0 ++ [59]) (0, tE tp n p, fun _ => 0) el.2.1
    generalize hq : rdl tp n (0, tE tp n p, fun _ => 0) (frP k0 ++ [59]) = q at r q2 q7 VQ1 ple
    rcases r with ⟨r1, r2, r3, i', r4, r5, r6⟩ | ⟨r1, r2, r3, r4⟩
    · have q2' := q2.resolve_right (fun z => z.1 r1)
      have T2 := q2'.2.1.1
      have n900' := T2.2.2.2.2.2
      -- the class's PROGRAM
      have eA : ∀ a, a ≠ B + 11 → a ≠ gN g0 → a ≠ gN g0 + 1 → a ≠ gN g → Eqa h h2 a := fun a x1 x2 x3 x4 => (a6 a x1 x2 x3 x4).tr (w2.2.1 a x1 x4)
      have CI2 : CI op (gA g 2 10) h2 (gN g0) (m + 1) (ud kd m k0) (ud vv m q.2.2) := by
        refine ⟨by rw [gT_gA, if_neg (by omega)]; exact c1, by rw [w2.1, a5]; exact c2, by rw [gT_gA, if_neg (by omega)]; exact c3, by rw [gL_gA, if_neg (by omega)]; exact c4, by rw [(w2.2.1 (gN g0) (by omega) (by omega)).1, a4, ud_s], fun k hk => ?_⟩
        by_cases ek : k = m
        · subst ek
          rw [ud_s, ud_s, w2.1, a3, ud_s, ← gn]
          exact ⟨rfl, tc, a2, r3⟩
        · obtain ⟨d1, d2, d3, d4⟩ := c6 k (by omega)
          rw [ud_n ek, ud_n ek, w2.1, a3, ud_n ek, gT_gA, if_neg (by omega), (a6 (gN g0 + 2 + k) (by omega) (by omega) (by omega) (by omega)).2.2.2, (eA (gN g0 + 2 + k) (by omega) (by omega) (by omega) (by omega)).1]
          exact ⟨d1, d2, d3, d4⟩
      have q7' := q7 r1
      have v9 : k0 ≠ 25 → q.2.2 9 = 0 := fun _ => by
        obtain ⟨x, x1, x2⟩ := VQ1 9 (by decide) (by decide)
        have : x = 0 := Nat.le_zero.mp x2
        rw [x1, this]; rfl
      have vq8 : ∀ f, 1 ≤ f → f ≤ 8 → ∃ x, q.2.2 f = nI x ∧ x ≤ bdM k0 f := fun f f1 f8 => VQ1 f f1 (by omega)
      have V1 : ∀ k, k < m + 1 → ud kd m k0 k < 27 ∧ (∀ f, 1 ≤ f → f ≤ 8 → ∃ x, ud vv m q.2.2 k f = nI x ∧ x ≤ bdM (ud kd m k0 k) f) ∧ (ud kd m k0 k ≠ 25 → ud vv m q.2.2 k 9 = 0) := fun k hk => by
        by_cases ek : k = m
        · subst ek
          rw [ud_s, ud_s]
          exact ⟨k27, vq8, v9⟩
        · rw [ud_n ek, ud_n ek]
          exact v1 k (by omega)
      have PLc : ∀ R, PL E B p1 p2 i' (gA g 2 10) h2 R → PL E B p1 p2 i g h R := fun R y => mo R (r6 R y)
      have qle : q.2.1 ≤ n := r2.2.1
      have plt : p < q.2.1 := by omega
      by_cases k25 : k0 = 25
      · subst k25
        have son : so = none := by
          cases so with
          | none => rfl
          | some s =>
            exact absurd bf (by
              unfold bF
              rw [if_neg (show ¬ tK tp n p = 0 from fun z => by have := (isT_in (nm_lt 25 (by decide)).1 ((U 25 (by decide)).mpr rfl)).2; rw [z] at this; exact absurd this (by decide)), if_neg (by rintro (w | w); exact absurd w (by decide); exact absurd w.1 (by decide)), if_neg (by decide), if_neg (by omega), if_pos ⟨rfl, rfl⟩]
              decide)
        subst son
        rw [if_pos rfl, gn] at r2
        refine Or.inr (Or.inr ⟨rfl, q.2.1, i', gA g 2 10, h2, hr1, ud kd m 25, ud vv m q.2.2, plt, ⟨⟨_, _, r2⟩, CI2, CB2, r5, q2'.2, H.tr q3, PI.more P (fun x x1 x2 => q6 x x1 (by omega)) q4 q5 q7', V1, fun k hk e25 ns => ?_, fun s es => ?_⟩, PLc, q0⟩)
        · have km : k ≠ m := fun z => ns (by rw [z])
          rw [ud_n km] at e25
          obtain ⟨e, d1, d2, d3, d4, d5⟩ := v2 k (by omega) e25 (by simp)
          refine ⟨e, by rw [ud_n km]; exact d1, d2, by omega, by rw [q6 _ (by omega) (by omega)]; exact d4, fun j j1 j2 => ?_⟩
          rw [ud_n (by omega)]
          exact d5 j j1 j2
        · cases es
          exact ⟨by omega, ud_s _ _ _, fun j j1 j2 => by omega⟩
      · have fin := r_fin (fO := fO) (wi := wi) (k0 := k0) (w := 990 + 8 * m) T2 k27 k25 (by omega) (FUEL - 1)
        rw [show FUEL - 1 + 1 = FUEL by omega, q4] at fin
        rw [fin] at q0
        have rx : ∀ x, x ≠ 990 + 8 * m + 7 → hI (sI hr1 (B + 192) (990 + 8 * m + 7) (nI (m + 1))) (B + 192) x = hI hr1 (B + 192) x := fun x hx => by rw [hI_sI, if_pos rfl, ud_n hx]
        rw [if_neg k25] at r2
        refine Or.inr (Or.inl ⟨q.2.1, i', gA g 2 10, h2, _, ud kd m k0, ud vv m q.2.2, plt, ⟨⟨_, _, r2⟩, CI2, CB2, r5, q2'.2.c, (H.tr q3).c ⟨by omega, by omega⟩, PI.more P (fun x x1 x2 => ?_) (by rw [rx _ (by omega)]; exact q4) (by rw [rx _ (by omega)]; exact q5) (fun y y1 y6 => by rw [rx _ (by omega)]; exact q7' y y1 y6), V1, fun k hk e25 ns => ?_, fun s es => ?_⟩, PLc, q0⟩)
        · rw [rx _ (by omega)]
          exact q6 x x1 (by omega)
        · have km : k ≠ m := fun z => by rw [z, ud_s] at e25; exact k25 e25
          rw [ud_n km] at e25
          obtain ⟨e, d1, d2, d3, d4, d5⟩ := v2 k (by omega) e25 ns
          refine ⟨e, by rw [ud_n km]; exact d1, d2, by omega, by rw [rx _ (by omega), q6 _ (by omega) (by omega)]; exact d4, fun j j1 j2 => ?_⟩
          rw [ud_n (by omega)]
          exact d5 j j1 j2
        · obtain ⟨d1, d2, d3⟩ := v3 s es
          refine ⟨by omega, by rw [ud_n (by omega)]; exact d2, fun j j1 j2 => ?_⟩
          by_cases jm : j = m
          · rw [jm, ud_s]; exact k25
          · rw [ud_n jm]; exact d3 j j1 (by omega)
    · have D := (q2.resolve_left (fun z => r1 z.1)).2
      have CFa : CF E B p1 p2 g0 h0 i g h q.1 (nI q.2.1) := ⟨gA g 2 10, h2, m + 1, mo _ r4, r2, r3, CB2⟩
      refine Or.inl ⟨_, _, CFa, ?_⟩
      have hfin : pX13_readCode_o gr fO hr (B + 187) wi = some (sI hr1 (B + 192) (990 + 8 * m + 7) (hI hr1 (B + 192) 989)) := by
        rw [q0]
        by_cases k25 : k0 = 25
        · subst k25
          have fin := r_finD (fO := fO) (wi := wi) (w := 990 + 8 * m) D (by omega) (FUEL - 1)
          rw [show FUEL - 1 + 1 = FUEL by omega] at fin
          exact fin
        · have fin := r_fin (fO := fO) (wi := wi) (k0 := k0) (w := 990 + 8 * m) D.1 k27 k25 (by omega) (FUEL - 1)
          rw [show FUEL - 1 + 1 = FUEL by omega] at fin
          exact fin
      exact ⟨_, hfin, D.c, (H.tr q3).c ⟨by omega, by omega⟩⟩
  · cases so with
    | none => exact absurd e (by simp)
    | some s => exact absurd ⟨k27, rfl⟩ ne
end ONE
