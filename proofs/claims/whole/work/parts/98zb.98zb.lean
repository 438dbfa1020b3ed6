/-! PROGRAM: how both begin, how the reference ends -/
section PST
variable {B b L : Nat} {E : EC} {xs : Nat → Int32} {op st bt : Nat → Nat} {aL aS aO : Nat} {g gr : MT} {h h' hr hr' : CT} {tp : Nat → Int32} {n p : Nat} {q1 kf a : Int32} {kd : Nat → Nat} {vv : Nat → Nat → Int32}
theorem stB_0 : (stB 0).length = 0 := by decide +kernel
theorem k_start (K : EOK E b L xs op st bt aL aS aO) (S : Sh B g) (Z : TZ g) (hn : n ≤ 900) :
    ∃ h1, (∀ R, PL E B (B + 10) (nI n) 0 (gA (gA g 6 2) 25 30) h1 R → pX6_parse E g h (B + 11) (B + 10) (nI n) = some R ∧ gN g ≤ gN R.2.1 ∧ gU g ≤ gU R.2.1) ∧ KL B st (gA (gA g 6 2) 25 30) h1 (hI h (B + 10)) n 0 (gN g) none 0 (stB 0).length none ∧ CI op (gA (gA g 6 2) 25 30) h1 (gN g) 0 kd vv ∧ CB B g h (gA (gA g 6 2) 25 30) h1 0 := by
  have S1 := S.1
  have T11 := st_11 S
  have T10 := st_10 S
  have gn6 : gN (gA g 6 2) = gN g + 1 := rfl
  have tA : ∀ a, a < gN g → gT (gA (gA g 6 2) 25 30) a = gT g a ∧ gL (gA (gA g 6 2) 25 30) a = gL g a := fun a ha => by
    rw [gT_gA, gL_gA, gn6, if_neg (by omega), if_neg (by omega), gT_gA, gL_gA, if_neg (by omega), if_neg (by omega)]
    exact ⟨rfl, rfl⟩
  have tp1 : gT (gA (gA g 6 2) 25 30) (gN g) = 6 := by rw [gT_gA, gn6, if_neg (by omega), gT_gA, if_pos rfl]
  have tp2 : gT (gA (gA g 6 2) 25 30) (gN g + 1) = 25 := by rw [gT_gA, gn6, if_pos rfl]
  have tp3 : gL (gA (gA g 6 2) 25 30) (gN g + 1) = 30 := by rw [gL_gA, gn6, if_pos rfl]
  have e50 : E.1 50 = .ref (st 0) := e_x K 0 (by decide)
  have mn : pJ9_min_7cf53 (nI n) (Int32.ofNat 900) = nI n := by
    unfold pJ9_min_7cf53
    rw [show Int32.ofNat 900 = nI 900 from rfl, if_neg (show ¬ nI 900 < nI n from nI_nlt hn (by omega))]
  generalize he5 : sI (sI (sR h (B + 11) 2 (some (B + 10))) (B + 11) 3 (nI n)) (B + 11) 5 0 = h5
  have E5 : ∀ a, a ≠ B + 11 → Eqa h h5 a := fun a ha => by rw [← he5]; exact (((Eqa.rf h a).sR ha).sI ha).sI ha
  generalize he13 : sR (hZ (hZ h5 (gN g)) (gN g + 1)) (gN g) 0 (some (gN g + 1)) = h13
  have I13 : ∀ a, a ≠ gN g → a ≠ gN g + 1 → Eqa h5 h13 a := fun a n1 n2 => by
    rw [← he13]
    refine Eqa.sR ⟨?_, ?_, ?_, ?_⟩ n1
    · rw [hI_hZ, if_neg n2, hI_hZ, if_neg n1]
    · rw [hL_hZ, if_neg n2, hL_hZ, if_neg n1]
    · rw [hD_hZ, if_neg n2, hD_hZ, if_neg n1]
    · rw [hR_hZ, if_neg n2, hR_hZ, if_neg n1]
  have P13 : hI h13 (gN g) 1 = 0 := by
    rw [← he13]
    show hI (hZ (hZ h5 (gN g)) (gN g + 1)) (gN g) 1 = 0
    rw [hI_hZ, if_neg (by omega), hI_hZ, if_pos rfl]
  have R13 : hR h13 (gN g) 0 = some (gN g + 1) := by rw [← he13, hR_sR, if_pos rfl, ud_s]
  generalize he : sI (sI (sR (sI (sR (sR (sR h13 (B + 11) 7 (some (gN g))) (B + 11) 8 none) (B + 11) 9 (some (st 0))) (B + 11) 10 0) (B + 11) 11 none) (B + 11) 0 0) (B + 11) 1 (-1) = h1
  have E1 : ∀ a, a ≠ B + 11 → Eqa h13 h1 a := fun a ha => by rw [← he]; exact (((((((Eqa.rf h13 a).sR ha).sR ha).sR ha).sI ha).sR ha).sI ha).sI ha
  have R11 : hR h1 (B + 11) = ud (ud (ud (ud (hR h13 (B + 11)) 7 (some (gN g))) 8 none) 9 (some (st 0))) 11 none := by
    rw [← he]
    show hR (sR (sR (sR (sR h13 (B + 11) 7 (some (gN g))) (B + 11) 8 none) (B + 11) 9 (some (st 0))) (B + 11) 11 none) (B + 11) = _
    rw [hR_sR, if_pos rfl, hR_sR, if_pos rfl, hR_sR, if_pos rfl, hR_sR, if_pos rfl]
  have I11 : hI h1 (B + 11) = ud (ud (ud (hI h13 (B + 11)) 10 0) 0 0) 1 (-1) := by
    rw [← he, hI_sI, if_pos rfl, hI_sI, if_pos rfl]
    show ud (ud (hI (sI (sR (sR (sR h13 (B + 11) 7 (some (gN g))) (B + 11) 8 none) (B + 11) 9 (some (st 0))) (B + 11) 10 0) (B + 11)) 0 0) 1 (-1) = _
    rw [hI_sI, if_pos rfl]; rfl
  have i5 : hI h13 (B + 11) = ud (ud (hI h (B + 11)) 3 (nI n)) 5 0 := by rw [(I13 (B + 11) (by omega) (by omega)).1, ← he5, hI_sI, if_pos rfl, hI_sI, if_pos rfl]; rfl
  have r5 : hR h13 (B + 11) 2 = some (B + 10) := by
    rw [(I13 (B + 11) (by omega) (by omega)).2.2.2, ← he5]
    show hR (sR h (B + 11) 2 (some (B + 10))) (B + 11) 2 = _
    rw [hR_sR, if_pos rfl, ud_s]
  have fr : ∀ a, a < gN g → a ≠ B + 11 → Eqa h h1 a := fun a ha hb => ((E5 a hb).tr (I13 a (by omega) (by omega))).tr (E1 a hb)
  have Z2 : TZ (gA (gA g 6 2) 25 30) := (Z.new 6 2).new 25 30
  refine ⟨h1, fun R y => ?_, ⟨⟨by rw [(tA _ (by omega)).1]; exact T11, by rw [R11, ud_n (by decide), ud_n (by decide), ud_n (by decide), ud_n (by decide)]; exact r5, by rw [(tA _ (by omega)).1]; exact T10, by rw [(tA _ (by omega)).2]; exact sl_10 S, (fr (B + 10) (by omega) (by omega)).1, by rw [I11, ud_n (by decide), ud_n (by decide), ud_n (by decide), i5, ud_n (by decide), ud_s], hn⟩, Nat.zero_le _, by rw [I11, ud_n (by decide), ud_n (by decide), ud_n (by decide), i5, ud_s]; rfl, by rw [I11, ud_n (by decide), ud_s], by rw [I11, ud_s], by rw [R11, ud_n (by decide), ud_n (by decide), ud_n (by decide), ud_s], by rw [R11, ud_n (by decide), ud_n (by decide), ud_s], by rw [R11, ud_n (by decide), ud_s], by decide, by rw [I11, ud_n (by decide), ud_n (by decide), ud_s, stB_0]; rfl, by rw [R11, ud_s]⟩, ⟨tp1, by rw [(E1 (gN g) (by omega)).2.2.2]; exact R13, tp2, tp3, by rw [(E1 (gN g) (by omega)).1, P13]; rfl, fun k hk => absurd hk (Nat.not_lt_zero _)⟩, Z2, rfl, by show gU g + 2 + 30 = _; omega, by decide, tA, fr⟩
  obtain ⟨y1, y2, y3⟩ := y
  have g2 : gN g ≤ gN R.2.1 ∧ gU g ≤ gU R.2.1 := ⟨by have : gN (gA (gA g 6 2) 25 30) = gN g + 1 + 1 := rfl; omega, by have : gU (gA (gA g 6 2) 25 30) = gU g + 2 + 30 := rfl; omega⟩
  have g3 : gN (gA g 6 2) ≤ gN R.2.1 ∧ gU (gA g 6 2) ≤ gU R.2.1 := ⟨by have : gN (gA (gA g 6 2) 25 30) = gN g + 1 + 1 := rfl; have : gN (gA g 6 2) = gN g + 1 := rfl; omega, by have : gU (gA (gA g 6 2) 25 30) = gU g + 2 + 30 := rfl; have : gU (gA g 6 2) = gU g + 2 := rfl; omega⟩
  have ini : pX7_init (gA g 6 2) (hZ h5 (gN g)) (gN g) = some (gA (gA g 6 2) 25 30, h13) := by
    unfold pX7_init
    rw [w_lt, w_lt, w_lt, w_tg tp1, w_lt, gn6, he13, w_gq (pr := Prod.fst) (g1 := gA (gA g 6 2) 25 30) (r := (gA (gA g 6 2) 25 30, h13)) ⟨Nat.le_refl _, Nat.le_refl _⟩]
    exact w_gq (pr := Prod.fst) ⟨Nat.le_succ _, Nat.le_add_right _ _⟩
  have t6 : gT (gA g 6 2) (gN g) = 6 := by rw [gT_gA, if_pos rfl]
  have t5 : gT (gA (gA g 6 2) 25 30) (B + 11) = 5 := by rw [(tA _ (by omega)).1]; exact T11
  refine ⟨?_, g2⟩
  unfold pX6_parse
  rw [w_tg T11, w_lt, w_tg T10, sl_10 S, mn, w_lt, w_lt, he5, w_lt, w_lt, w_lt, w_tg t6, ini, w_bd2, w_tg t5, w_lt, w_lt, e50, w_kR, w_lt, w_lt, w_lt, w_lt, w_lt, he]
  rw [show pX6_parse_l64 E (B + 11) (B + 10) (nI n) FUEL 0 (gA (gA g 6 2) 25 30) h1 = some R from y1]
  rw [w_gq (pr := fun z : Option Nat × MT × CT => z.2.1) (g1 := gA (gA g 6 2) 25 30) (r := R) ⟨y2, y3⟩, w_gq (pr := fun z : Option Nat × MT × CT => z.2.1) (g1 := gA g 6 2) (r := R) g3]
  exact w_gq (pr := fun z : Option Nat × MT × CT => z.2.1) g2
/-- the reference clears its new rows -/
theorem z_rows : ∀ (d k f : Nat) (h : CT), k + d = 246 → d < f → LV B g h tp n p → ∃ h', pX13_program_l56 g (B + 187) q1 f (nI k) h = pX13_program_l80 g (B + 187) q1 FUEL h' ∧ LV B g h' tp n p ∧ HFr B h h' ∧ (∀ x, 984 + k ≤ x → x < 1230 → hI h' (B + 192) x = 0) ∧ ∀ x, x < 984 + k → hI h' (B + 192) x = hI h (B + 192) x := by
  intro d
  induction d with
  | zero =>
    intro k f h ek hf A
    obtain ⟨f, rfl⟩ : ∃ f', f = f' + 1 := ⟨f - 1, by omega⟩
    refine ⟨h, ?_, A, HFr.rf B h, fun x x1 x2 => by omega, fun _ _ => rfl⟩
    rw [pX13_program_l56, pX13_program_b56, if_pos (show (246 : Int32) ≤ nI k from nI_le (a := 246) (by omega) (by omega))]
  | succ d ih =>
    intro k f h ek hf A
    obtain ⟨f, rfl⟩ : ∃ f', f = f' + 1 := ⟨f - 1, by omega⟩
    have S := A.1.1.1
    obtain ⟨h', q1', q2, q3, q4, q5⟩ := ih (k + 1) f (sI h (B + 192) (984 + k) 0) (by omega) (by omega) A.c
    refine ⟨h', ?_, q2, ((HFr.rf B h).c ⟨by omega, by omega⟩).tr q3, fun x x1 x2 => ?_, fun x x1 => ?_⟩
    · rw [pX13_program_l56, pX13_program_b56, if_neg (show ¬ (246 : Int32) ≤ nI k from nI_ge (b := 246) (by omega) (by omega)), w_lt, A.1.1.rr, w_nn, w_tg (st_192 S), sl_192 S, show (984 + nI k : Int32) = nI (984 + k) from nI_add 984 k, w_ix (by omega) (by decide), w_lt, nI_clamp (by omega), nI_1]
      exact q1'
    · by_cases e : x = 984 + k
      · rw [q5 x (by omega), hI_sI, if_pos rfl, e, ud_s]
      · exact q4 x (by omega) x2
    · rw [q5 x (by omega), hI_sI, if_pos rfl, ud_n (by omega)]
theorem QT.c22 (T : QT B g h tp n) {k : Nat} {v : Int32} (hk : k ≠ 9) : QT B g (sI h (B + 187) k v) tp n := ⟨T.1, T.2.1, by rw [hI_sI, if_neg (by omega)]; exact T.2.2.1, T.2.2.2.1, by rw [hI_sI, if_pos rfl, ud_n (fun e => hk e.symm)]; exact T.2.2.2.2.1, T.2.2.2.2.2⟩
/-- the reference takes the new rows for its own -/
theorem c_rows : ∀ (d k f : Nat) (h : CT), k + d = 246 → d < f → QT B g h tp n → ∃ h', pX13_program_l145 g (B + 187) q1 f (nI k) h = some (hI h' (B + 192) 5, h') ∧ hR h' = hR h ∧ (∀ a, a ≠ B + 187 → a ≠ B + 192 → Eqa h h' a) ∧ hI h' (B + 187) = ud (hI h (B + 187)) 22 0 ∧ hL h' (B + 187) = hL h (B + 187) ∧ (∀ x, k ≤ x → x < 246 → hI h' (B + 192) x = hI h (B + 192) (984 + x)) ∧ ∀ x, (x < k ∨ 246 ≤ x) → hI h' (B + 192) x = hI h (B + 192) x := by
  intro d
  induction d with
  | zero =>
    intro k f h ek hf T
    obtain ⟨f, rfl⟩ : ∃ f', f = f' + 1 := ⟨f - 1, by omega⟩
    have S := T.1
    refine ⟨sI h (B + 187) 22 0, ?_, rfl, fun a d e => (Eqa.rf h a).sI d, by rw [hI_sI, if_pos rfl], rfl, fun x x1 x2 => by omega, fun x _ => by rw [hI_sI, if_neg (by omega)]⟩
    rw [pX13_program_l145, pX13_program_b145, if_pos (show (246 : Int32) ≤ nI k from nI_le (a := 246) (by omega) (by omega)), w_lt, w_lt, (T.c22 (k := 22) (v := 0) (by decide)).rr, w_nn, w_tg (st_192 S), sl_192 S, show ∀ {α : Type} (k : Option α), ix 1476 5 k = k from fun k => w_ix (i := 5) (by decide) (by decide) k]
    rfl
  | succ d ih =>
    intro k f h ek hf T
    obtain ⟨f, rfl⟩ : ∃ f', f = f' + 1 := ⟨f - 1, by omega⟩
    have S := T.1
    obtain ⟨h', q1', q2, q3, q4, q5, q6, q7⟩ := ih (k + 1) f (sI h (B + 192) k (hI h (B + 192) (984 + k))) (by omega) (by omega) T.c
    refine ⟨h', ?_, q2, fun a d e => ((Eqa.rf h a).sI e).tr (q3 a d e), by rw [q4, hI_sI, if_neg (by omega)], q5, fun x x1 x2 => ?_, fun x x1 => ?_⟩
    · rw [pX13_program_l145, pX13_program_b145, if_neg (show ¬ (246 : Int32) ≤ nI k from nI_ge (b := 246) (by omega) (by omega)), w_lt, w_lt, T.rr, w_nn, w_tg (st_192 S), sl_192 S, show (984 + nI k : Int32) = nI (984 + k) from nI_add 984 k, w_ix (by omega) (by decide), w_nn, w_tg (st_192 S), sl_192 S, w_ix (by omega) (by decide), w_lt, nI_clamp (by omega), nI_clamp (by omega), w_lt, nI_1]
      exact q1'
    · by_cases e : x = k
      · rw [q7 x (by omega), hI_sI, if_pos rfl, e, ud_s]
      · rw [q6 x (by omega) x2, hI_sI, if_pos rfl, ud_n (by omega)]
    · rw [q7 x (by omega), hI_sI, if_pos rfl, ud_n (by omega)]
end PST
