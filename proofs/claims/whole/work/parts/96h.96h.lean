/-! a run, begun anew, in both -/
section BRN
variable {B b L : Nat} {E : EC} {xs : Nat → Int32} {op st bt : Nat → Nat} {aL aS aO : Nat} {g : MT} {h h' h1 h2 hc hr hr' hr1 : CT} {q z p pp : Nat} {f : Nat → Nat} {π : Pg} {ik k n nb y t T : Nat} {F : Nat → Nat → Nat} {G G0 : Nat → Nat → Int32}
theorem loopE {σ ρ : Type} {L : Nat → Nat → σ → Option ρ} {N : Nat} {Inv : Nat → σ → Prop} {K : σ → Option ρ} (step : ∀ f j s, j < N → Inv j s → ∃ s', L (f + 1) j s = L f (j + 1) s' ∧ Inv (j + 1) s') (fin : ∀ f s, Inv N s → L (f + 1) N s = K s) :
    ∀ (d j f : Nat) (s : σ), j + d = N → d < f → Inv j s → ∃ s', L f j s = K s' ∧ Inv N s' := by
  intro d
  induction d with
  | zero =>
    intro j f s e1 e2 h
    obtain ⟨f, rfl⟩ : ∃ f', f = f' + 1 := ⟨f - 1, by omega⟩
    obtain rfl : j = N := by omega
    exact ⟨s, fin f s h, h⟩
  | succ d ih =>
    intro j f s e1 e2 h
    obtain ⟨f, rfl⟩ : ∃ f', f = f' + 1 := ⟨f - 1, by omega⟩
    obtain ⟨s', e, h'⟩ := step f j s (by omega) h
    obtain ⟨r, q1, q2⟩ := ih (j + 1) f s' (by omega) (by omega) h'
    exact ⟨r, e.trans q1, q2⟩
theorem t_clear (A : TimA g (hR h) z) : ∃ h', pX10_clear g h z = some h' ∧ TC z h' (fun _ _ => 0) (fun _ _ => -1) ∧ (hR h' = hR h ∧ ∀ w, (w < z ∨ z + 6 < w) → Eqa h h' w) ∧ (hI h' z 3 = 0 ∧ hI h' z 4 = -1 ∧ hI h' z 5 = -1) := by
  obtain ⟨A0, ⟨a1, b1, c1⟩, ⟨a2, b2, c2⟩, ⟨a3, b3, c3⟩, ⟨a4, b4, c4⟩, ⟨a5, b5, c5⟩, a6, b6, c6⟩ := A
  generalize hx : sI (sI (sI (sI (sI (sI (sI (sI (sI (sI (sI h z 0 0) z 1 0) z 2 0) z 3 0) z 4 (-1)) z 5 (-1)) z 8 (-1)) z 9 0) z 10 0) z 11 0) z 12 0 = x
  have xR : hR x = hR h := by rw [← hx]; rfl
  have xo : ∀ w, w ≠ z → Eqa h x w := fun w hw => by
    rw [← hx]
    exact (((((((((((Eqa.rf h w).sI hw).sI hw).sI hw).sI hw).sI hw).sI hw).sI hw).sI hw).sI hw).sI hw).sI hw
  have xz : ∀ j, isO j → hI x z j = 0 := fun j hj => by
    rw [← hx]
    simp only [hI_sI, if_true, ud]
    rcases hj with rfl | rfl | rfl | rfl | rfl | rfl | rfl <;> rfl
  have x8 : hI x z 8 = -1 := by
    rw [← hx]
    simp only [hI_sI, if_true, ud]
    rfl
  have x345 : hI x z 3 = 0 ∧ hI x z 4 = -1 ∧ hI x z 5 = -1 := by
    rw [← hx]
    simp only [hI_sI, if_true, ud]
    exact ⟨rfl, rfl, rfl⟩
  obtain ⟨y1, f1, g1, -, -, e1⟩ := fillI (h := x) (v := -1) b1 c1 (by decide)
  obtain ⟨y2, f2, g2, -, -, e2⟩ := fillI (h := y1) (v := -1) b2 c2 (by decide)
  obtain ⟨y3, f3, g3, -, -, e3⟩ := fillI (h := y2) (v := 0) b3 c3 (by decide)
  obtain ⟨y4, f4, g4, -, -, e4⟩ := fillI (h := y3) (v := 0) b4 c4 (by decide)
  obtain ⟨y5, f5, g5, -, -, e5⟩ := fillI (h := y4) (v := 0) b5 c5 (by decide)
  obtain ⟨y6, f6, g6, -, -, e6⟩ := fillI (h := y5) (v := 0) b6 c6 (by decide)
  have R1 : hR y1 = hR h := g1.1.trans xR
  have R2 : hR y2 = hR h := g2.1.trans R1
  have R3 : hR y3 = hR h := g3.1.trans R2
  have R4 : hR y4 = hR h := g4.1.trans R3
  have R5 : hR y5 = hR h := g5.1.trans R4
  have R6 : hR y6 = hR h := g6.1.trans R5
  have out : ∀ w, w ≠ z + 1 → w ≠ z + 2 → w ≠ z + 3 → w ≠ z + 4 → w ≠ z + 5 → w ≠ z + 6 → Eqa x y6 w := fun w w1 w2 w3 w4 w5 w6 => (((((g1.2 w w1).tr (g2.2 w w2)).tr (g3.2 w w3)).tr (g4.2 w w4)).tr (g5.2 w w5)).tr (g6.2 w w6)
  have oz : hI y6 z = hI x z := (out z (by omega) (by omega) (by omega) (by omega) (by omega) (by omega)).1
  refine ⟨y6, ?_, ⟨fun j hj => by rw [oz, xz j hj]; rfl, by rw [oz, x8]; rfl, fun a j a1' a2' a3' => ?_, fun a j a1' a2' a3' => ?_⟩, ⟨R6, fun w hw => (xo w (by omega)).tr (out w (by omega) (by omega) (by omega) (by omega) (by omega) (by omega))⟩, by rw [oz]; exact x345⟩
  · unfold pX10_clear
    simp only [w_tg A0, w_lt]
    rw [hx, xR, a1, w_nn, f1, w_bd, R1, a2, w_nn, f2, w_bd, R2, a3, w_nn, f3, w_bd, R3, a4, w_nn, f4, w_bd, R4, a5, w_nn, f5, w_bd, R5, a6, w_nn, f6, w_bd]
  · rcases (show a = 3 ∨ a = 4 ∨ a = 5 ∨ a = 6 by omega) with rfl | rfl | rfl | rfl
    · rw [(g6.2 (z + 3) (by omega)).1, (g5.2 (z + 3) (by omega)).1, (g4.2 (z + 3) (by omega)).1, e3 j a3']; rfl
    · rw [(g6.2 (z + 4) (by omega)).1, (g5.2 (z + 4) (by omega)).1, e4 j a3']; rfl
    · rw [(g6.2 (z + 5) (by omega)).1, e5 j a3']; rfl
    · rw [e6 j a3']; rfl
  · rcases (show a = 1 ∨ a = 2 by omega) with rfl | rfl
    · rw [(g6.2 (z + 1) (by omega)).1, (g5.2 (z + 1) (by omega)).1, (g4.2 (z + 1) (by omega)).1, (g3.2 (z + 1) (by omega)).1, (g2.2 (z + 1) (by omega)).1, e1 j a3']
    · rw [(g6.2 (z + 2) (by omega)).1, (g5.2 (z + 2) (by omega)).1, (g4.2 (z + 2) (by omega)).1, (g3.2 (z + 2) (by omega)).1, e2 j a3']
/-- the reference sets its TIMES anew -/
theorem r_init (S : Sh B g) (p2 : PtR B (hR hr)) {cnt : Int32} (ec : hI hr (B + 192) 5 = cnt) : ∃ x, pX13_runs g hr (B + 187) = (bd (pX13_doAll g x (B + 187) 0 cnt) fun h15 => some h15) ∧ TR B y x (fun _ _ => 0) (fun _ _ => -1) ∧ MFr B hr x ∧ (hI x (B + 192) = hI hr (B + 192) ∧ hD x (B + 193) = hD hr (B + 193)) ∧ hI x (B + 187) 33 = 0 ∧ hI x (B + 187) 37 = 0 ∧ hI x (B + 187) 40 = 0 := by
  have fr : ∀ (x : CT) (a k : Nat) (v : Int32), 194 ≤ a → a ≤ 199 → RFr B hr x → RFr B hr (sI x (B + a) k v) := fun x a k v a1 a2 w => w.a a1 a2
  -- READY, READ
  obtain ⟨x1, q1, i1, i2, i3⟩ := loopE (L := fun f j s => pX13_runs_l2 g (B + 187) f (nI j) s) (N := 96) (Inv := fun j s => RFr B hr s ∧ (∀ i, i < j → hI s (B + 194) i = 0) ∧ ∀ i, i < j → hI s (B + 195) i = 0) (K := fun s => pX13_runs_l30 g (B + 187) FUEL 0 s) (fun f j s hj H => by
    obtain ⟨H1, H2, H3⟩ := H
    have ps : PtR B (hR s) := by rw [H1.1]; exact p2
    refine ⟨sI (sI s (B + 194) j 0) (B + 195) j 0, ?_, (H1.a (by decide) (by decide)).a (by decide) (by decide), fun i hi => ?_, fun i hi => ?_⟩
    · show pX13_runs_l2 g (B + 187) (f + 1) (nI j) s = _
      rw [pX13_runs_l2, pX13_runs_b2, if_neg (show ¬ (96 : Int32) ≤ nI j from nI_ge (b := 96) hj (by decide)), w_lt, pr_187_23 ps, w_nn, w_tg (st_194 S), sl_194 S, w_ix hj (by decide), nI_clamp (by omega), w_lt, w_lt, hR_sI, pr_187_24 ps, w_nn, w_tg (st_195 S), sl_195 S, w_ix hj (by decide), w_lt, w_lt, nI_1]
    · rw [hI_sI, if_neg (by omega), hI_sI, if_pos rfl]
      by_cases e : i = j
      · rw [e, ud_s]
      · rw [ud_n e]; exact H2 i (by omega)
    · rw [hI_sI, if_pos rfl, hI_sI, if_neg (by omega)]
      by_cases e : i = j
      · rw [e, ud_s]
      · rw [ud_n e]; exact H3 i (by omega)) (fun f s H => by
    show pX13_runs_l2 g (B + 187) (f + 1) (nI 96) s = _
    rw [pX13_runs_l2, pX13_runs_b2, if_pos (by decide)]) 96 0 FUEL hr (by omega) (by decide) ⟨RFr.rf B hr, fun i hi => by omega, fun i hi => by omega⟩
  -- UNITS
  obtain ⟨x2, q2, j1, j2, j3, j4⟩ := loopE (L := fun f j s => pX13_runs_l30 g (B + 187) f (nI j) s) (N := 4) (Inv := fun j s => RFr B hr s ∧ (∀ i, i < 96 → hI s (B + 194) i = 0) ∧ (∀ i, i < 96 → hI s (B + 195) i = 0) ∧ ∀ i, i < j → hI s (B + 196) i = 0) (K := fun s => pX13_runs_l50 g (B + 187) FUEL 0 s) (fun f j s hj H => by
    obtain ⟨H1, H2, H3, H4⟩ := H
    have ps : PtR B (hR s) := by rw [H1.1]; exact p2
    refine ⟨sI s (B + 196) j 0, ?_, H1.a (by decide) (by decide), fun i hi => ?_, fun i hi => ?_, fun i hi => ?_⟩
    · show pX13_runs_l30 g (B + 187) (f + 1) (nI j) s = _
      rw [pX13_runs_l30, pX13_runs_b30, if_neg (show ¬ (4 : Int32) ≤ nI j from nI_ge (b := 4) hj (by decide)), w_lt, pr_187_25 ps, w_nn, w_tg (st_196 S), sl_196 S, w_ix hj (by decide), nI_clamp (by omega), w_lt, w_lt, nI_1]
    · rw [hI_sI, if_neg (by omega)]; exact H2 i hi
    · rw [hI_sI, if_neg (by omega)]; exact H3 i hi
    · rw [hI_sI, if_pos rfl]
      by_cases e : i = j
      · rw [e, ud_s]
      · rw [ud_n e]; exact H4 i (by omega)) (fun f s H => by
    show pX13_runs_l30 g (B + 187) (f + 1) (nI 4) s = _
    rw [pX13_runs_l30, pX13_runs_b30, if_pos (by decide)]) 4 0 FUEL x1 (by omega) (by decide) ⟨i1, i2, i3, fun i hi => by omega⟩
  -- BANKS
  obtain ⟨x3, q3, k1, k2, k3, k4, k5⟩ := loopE (L := fun f j s => pX13_runs_l50 g (B + 187) f (nI j) s) (N := 16) (Inv := fun j s => RFr B hr s ∧ (∀ i, i < 96 → hI s (B + 194) i = 0) ∧ (∀ i, i < 96 → hI s (B + 195) i = 0) ∧ (∀ i, i < 4 → hI s (B + 196) i = 0) ∧ ∀ i, i < j → hI s (B + 197) i = -12) (K := fun s => pX13_runs_l72 g (B + 187) FUEL 0 s) (fun f j s hj H => by
    obtain ⟨H1, H2, H3, H4, H5⟩ := H
    have ps : PtR B (hR s) := by rw [H1.1]; exact p2
    refine ⟨sI s (B + 197) j (-12), ?_, H1.a (by decide) (by decide), fun i hi => ?_, fun i hi => ?_, fun i hi => ?_, fun i hi => ?_⟩
    · show pX13_runs_l50 g (B + 187) (f + 1) (nI j) s = _
      rw [pX13_runs_l50, pX13_runs_b50, if_neg (show ¬ (16 : Int32) ≤ nI j from nI_ge (b := 16) hj (by decide)), w_lt, pr_187_26 ps, w_nn, w_tg (st_197 S), sl_197 S, w_ix hj (by decide), nI_clamp (by omega), w_lt, w_lt, nI_1]
    · rw [hI_sI, if_neg (by omega)]; exact H2 i hi
    · rw [hI_sI, if_neg (by omega)]; exact H3 i hi
    · rw [hI_sI, if_neg (by omega)]; exact H4 i hi
    · rw [hI_sI, if_pos rfl]
      by_cases e : i = j
      · rw [e, ud_s]
      · rw [ud_n e]; exact H5 i (by omega)) (fun f s H => by
    show pX13_runs_l50 g (B + 187) (f + 1) (nI 16) s = _
    rw [pX13_runs_l50, pX13_runs_b50, if_pos (by decide)]) 16 0 FUEL x2 (by omega) (by decide) ⟨j1, j2, j3, j4, fun i hi => by omega⟩
  -- what BEGAN
  obtain ⟨x4, q4, l1, l2, l3, l4, l5, l6⟩ := loopE (L := fun f j s => pX13_runs_l72 g (B + 187) f (nI j) s) (N := 30) (Inv := fun j s => RFr B hr s ∧ (∀ i, i < 96 → hI s (B + 194) i = 0) ∧ (∀ i, i < 96 → hI s (B + 195) i = 0) ∧ (∀ i, i < 4 → hI s (B + 196) i = 0) ∧ (∀ i, i < 16 → hI s (B + 197) i = -12) ∧ ∀ i, i < j → hI s (B + 198) i = -1) (K := fun s => bd (pX13_doAll g (sI (sI (sI (sI (sI (sI (sI (sI (sI (sI s (B + 187) 29 0) (B + 187) 30 0) (B + 187) 31 0) (B + 187) 32 (-1)) (B + 187) 33 0) (B + 187) 34 0) (B + 187) 35 0) (B + 187) 36 0) (B + 187) 37 0) (B + 187) 40 0) (B + 187) 0 cnt) fun h15 => some h15) (fun f j s hj H => by
    obtain ⟨H1, H2, H3, H4, H5, H6⟩ := H
    have ps : PtR B (hR s) := by rw [H1.1]; exact p2
    refine ⟨sI s (B + 198) j (-1), ?_, H1.a (by decide) (by decide), fun i hi => ?_, fun i hi => ?_, fun i hi => ?_, fun i hi => ?_, fun i hi => ?_⟩
    · show pX13_runs_l72 g (B + 187) (f + 1) (nI j) s = _
      rw [pX13_runs_l72, pX13_runs_b72, if_neg (show ¬ (30 : Int32) ≤ nI j from nI_ge (b := 30) hj (by decide)), w_lt, pr_187_27 ps, w_nn, w_tg (st_198 S), sl_198 S, w_ix hj (by decide), nI_clamp (by omega), w_lt, w_lt, nI_1]
    · rw [hI_sI, if_neg (by omega)]; exact H2 i hi
    · rw [hI_sI, if_neg (by omega)]; exact H3 i hi
    · rw [hI_sI, if_neg (by omega)]; exact H4 i hi
    · rw [hI_sI, if_neg (by omega)]; exact H5 i hi
    · rw [hI_sI, if_pos rfl]
      by_cases e : i = j
      · rw [e, ud_s]
      · rw [ud_n e]; exact H6 i (by omega)) (fun f s H => by
    have ps : PtR B (hR s) := by rw [H.1.1]; exact p2
    have e5 : ∀ x : CT, hI x (B + 192) = hI s (B + 192) → hI x (B + 192) 5 = cnt := fun x hx => by rw [hx, (H.1.2.1 (B + 192) (by omega) (by omega)).1]; exact ec
    show pX13_runs_l72 g (B + 187) (f + 1) (nI 30) s = _
    rw [pX13_runs_l72, pX13_runs_b72, if_pos (by decide)]
    simp only [w_lt, hR_sI, pr_187_19 ps, w_nn, w_tg (st_192 S), sl_192 S]
    rw [w_ixl (show 5 < 1476 by decide) (by decide), cl_l 5 (by decide), e5 _ (by
      have n : B + 192 ≠ B + 187 := by omega
      rw [hI_sI, if_neg n, hI_sI, if_neg n, hI_sI, if_neg n, hI_sI, if_neg n, hI_sI, if_neg n, hI_sI, if_neg n, hI_sI, if_neg n, hI_sI, if_neg n, hI_sI, if_neg n, hI_sI, if_neg n])]) 30 0 FUEL x3 (by omega) (by decide) ⟨k1, k2, k3, k4, k5, fun i hi => by omega⟩
  generalize hx : sI (sI (sI (sI (sI (sI (sI (sI (sI (sI x4 (B + 187) 29 0) (B + 187) 30 0) (B + 187) 31 0) (B + 187) 32 (-1)) (B + 187) 33 0) (B + 187) 34 0) (B + 187) 35 0) (B + 187) 36 0) (B + 187) 37 0) (B + 187) 40 0 = x at *
  have xo : ∀ w, w ≠ B + 187 → hI x w = hI x4 w := fun w n => by
    rw [← hx, hI_sI, if_neg n, hI_sI, if_neg n, hI_sI, if_neg n, hI_sI, if_neg n, hI_sI, if_neg n, hI_sI, if_neg n, hI_sI, if_neg n, hI_sI, if_neg n, hI_sI, if_neg n, hI_sI, if_neg n]
  have xf : ∀ k, hI x (B + 187) k = if k = 32 then -1 else if (29 ≤ k ∧ k ≤ 37) ∨ k = 40 then 0 else hI x4 (B + 187) k := fun k => by
    rw [← hx]
    simp only [hI_sI, if_true, ud]
    repeat' split
    all_goals first | rfl | (exfalso; omega)
  have xR : hR x = hR x4 := by rw [← hx]; rfl
  have xL : hL x = hL x4 := by rw [← hx]; rfl
  have xD : hD x = hD x4 := by rw [← hx]; rfl
  refine ⟨x, ?_, ⟨fun j hj => ?_, by rw [xf, if_pos rfl]; rfl, fun a j a1 a2 a3 => ?_, fun j hj => Or.inl ⟨rfl, by rw [xo _ (by omega)]; exact l5 j hj⟩, fun j hj => by rw [xo _ (by omega)]; exact l6 j hj, fun j hj => Or.inl rfl⟩, ⟨by rw [xR]; exact l1.1, fun w a c => ?_, fun k hk => ?_, by rw [xL]; exact l1.2.2.2, fun i hi => ?_, fun i hi => ?_⟩, ⟨?_, ?_⟩, by rw [xf]; rfl, by rw [xf]; rfl, by rw [xf]; rfl⟩
  · unfold pX13_runs
    rw [w_tg (st_187 S)]
    exact q1.trans (q2.trans (q3.trans q4))
  · rw [xf]
    rcases hj with rfl | rfl | rfl | rfl | rfl | rfl <;> rfl
  · rcases (show a = 3 ∨ a = 4 ∨ a = 5 by omega) with rfl | rfl | rfl
    · show hI x (B + 196) j = nI 0
      rw [xo _ (by omega), l4 j a3]; rfl
    · show hI x (B + 194) j = nI 0
      rw [xo _ (by omega), l2 j a3]; rfl
    · show hI x (B + 195) j = nI 0
      rw [xo _ (by omega), l3 j a3]; rfl
  · have e := l1.m.2.1 w a c
    exact ⟨(xo w a).trans e.1, by rw [xL]; exact e.2.1, by rw [xD]; exact e.2.2.1, by rw [xR]; exact e.2.2.2⟩
  · rw [xf, if_neg (by omega), if_neg (by omega)]; exact l1.m.2.2.1 k hk
  · rw [xo _ (by omega)]; exact l1.m.2.2.2.2.1 i hi
  · rw [xD]; exact l1.m.2.2.2.2.2 i hi
  · rw [xo _ (by omega), (l1.2.1 (B + 192) (by omega) (by omega)).1]
  · rw [xD, (l1.2.1 (B + 193) (by omega) (by omega)).2.2.1]
end BRN
