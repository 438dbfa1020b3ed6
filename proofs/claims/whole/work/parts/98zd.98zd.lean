/-! PROGRAM -/
section CPR
variable {B b L : Nat} {E : EC} {xs : Nat → Int32} {op st bt : Nat → Nat} {aL aS aO : Nat} {g gr : MT} {hc hr : CT} {n : Nat} {p2 : Int32}
theorem PL.uni {p1 i : Nat} {h : CT} {R R' : Option Nat × MT × CT} (x : PL E B p1 p2 i g h R) (y : PL E B p1 p2 i g h R') : R = R' := Option.some.inj (x.1.symm.trans y.1)
/-- what the reference's beginning leaves alone -/
def SFr (B : Nat) (h h' : CT) : Prop := hR h' = hR h ∧ (∀ a, a ≠ B + 187 → a ≠ B + 192 → Eqa h h' a) ∧ (∀ k, ¬ (12 ≤ k ∧ k ≤ 17) → k ≠ 0 → k ≠ 1 → k ≠ 8 → k ≠ 9 → hI h' (B + 187) k = hI h (B + 187) k) ∧ hI h' (B + 187) 0 = 0 ∧ hI h' (B + 187) 8 = 0 ∧ (∀ k, k ≠ 18 → hL h' (B + 187) k = hL h (B + 187) k) ∧ ∀ x, (x < 984 ∨ 1230 ≤ x) → hI h' (B + 192) x = hI h (B + 192) x
theorem SFr.h {h h1 h2 : CT} (x : SFr B h h1) (u : HFr B h1 h2) : SFr B h h2 := ⟨u.1.trans x.1, fun a d e => (x.2.1 a d e).tr (u.2.1 a d e), fun k d a1 a2 a3 a4 => (u.2.2.1 k d).trans (x.2.2.1 k d a1 a2 a3 a4), (u.2.2.1 0 (by decide)).trans x.2.2.2.1, (u.2.2.1 8 (by decide)).trans x.2.2.2.2.1, fun k d => (u.2.2.2.1 k d).trans (x.2.2.2.2.2.1 k d), fun y d => (u.2.2.2.2 y d).trans (x.2.2.2.2.2.2 y d)⟩
theorem rp_start (S : Sh B gr) (p2 : PtR B (hR hr)) (tb : ∀ k, isByte (hI hr (B + 191) k)) (hn : n ≤ 900) (wi : pX12_within (nI n) 0 (hI hr (B + 187) 8) = 1) :
    ∃ h9, pX13_program gr hr (B + 187) (nI n) = pX13_program_l80 gr (B + 187) (nI n) FUEL h9 ∧ LV B gr h9 (hI hr (B + 191)) n 0 ∧ SFr B hr h9 ∧ ∀ x, 984 ≤ x → x < 1230 → hI h9 (B + 192) x = 0 := by
  have fu : 1000 < FUEL := by decide
  obtain ⟨h7, e7⟩ : ∃ h7, h7 = sI (sI (sI (sI (sI (sI hr (B + 187) 1 0) (B + 187) 0 0) (B + 187) 9 (nI n)) (B + 187) 8 0) (B + 187) 16 0) (B + 187) 12 0 := ⟨_, rfl⟩
  have nB : ∀ w, w ≠ B + 187 → Eqa hr h7 w := fun w hw => by rw [e7]; exact ((((((Eqa.rf hr w).sI hw).sI hw).sI hw).sI hw).sI hw).sI hw
  have F7 : hI h7 (B + 187) = ud (ud (ud (ud (ud (ud (hI hr (B + 187)) 1 0) 0 0) 9 (nI n)) 8 0) 16 0) 12 0 := by
    rw [e7, hI_sI, if_pos rfl, hI_sI, if_pos rfl, hI_sI, if_pos rfl, hI_sI, if_pos rfl, hI_sI, if_pos rfl, hI_sI, if_pos rfl]
  have R7 : hR h7 = hR hr := by rw [e7]; rfl
  have L7 : hL h7 = hL hr := by rw [e7]; rfl
  have e8 : hI (sI (sI hr (B + 187) 1 0) (B + 187) 0 0) (B + 187) 8 = hI hr (B + 187) 8 := by rw [hI_sI, if_pos rfl, ud_n (by decide), hI_sI, if_pos rfl, ud_n (by decide)]
  have wi' : pX13_isIn (Int32.toInt64 (nI n)) 0 (Int32.toInt64 (hI hr (B + 187) 8)) = 1 := (isIn_w (nI n) 0 (hI hr (B + 187) 8)).trans wi
  have top : pX13_program gr hr (B + 187) (nI n) = bd (pX13_advance gr h7 (B + 187)) fun h8 => pX13_program_l56 gr (B + 187) (nI n) FUEL 0 h8 := by
    unfold pX13_program
    rw [w_tg (st_187 S), w_lt, w_lt, e8, wi', if_neg (by decide), w_lt, w_lt, w_lt, w_lt, e7]
  have T : QT B gr h7 (hI hr (B + 191)) n := ⟨S, by rw [R7]; exact p2, (nB (B + 191) (by omega)).1, tb, by rw [F7, ud_n (by decide), ud_n (by decide), ud_n (by decide), ud_s], hn⟩
  obtain ⟨h8, q1, q2, q3, q4, q5, q6, q7⟩ := m_next (p := 0) T (Nat.zero_le n) (by rw [F7, ud_n (by decide), ud_s]; rfl)
  have A8 : LV B gr h8 (hI hr (B + 191)) n 0 := ⟨⟨T.fr q7, Nat.zero_le _, q2, q3, q4, q5, q6⟩, by rw [q7.2.2.1 12 (by decide), F7, ud_s]⟩
  obtain ⟨h9, z1, z2, z3, z4, z5⟩ := z_rows (q1 := nI n) 246 0 FUEL h8 rfl (by omega) A8
  have S7 : SFr B hr h7 := ⟨R7, fun a d _ => nB a d, fun k d a0 a1 a8 a9 => by rw [F7, ud_n (by omega), ud_n (by omega), ud_n (by omega), ud_n (by omega), ud_n (by omega), ud_n (by omega)], by rw [F7, ud_n (by decide), ud_n (by decide), ud_n (by decide), ud_n (by decide), ud_s], by rw [F7, ud_n (by decide), ud_n (by decide), ud_s], fun k _ => by rw [L7], fun x _ => by rw [(nB (B + 192) (by omega)).1]⟩
  refine ⟨h9, ?_, z2, (S7.h q7.v.f).h z3, fun x x1 x2 => z4 x (by omega) x2⟩
  rw [top, q1, w_bd]
  exact z1
theorem C_program (K : EOK E b L xs op st bt aL aS aO) : K_program B E op := by
  intro a0 g hc hr H Z
  have S := H.1
  have S1 := S.1
  have p1 := H.2.1
  have p2 := H.2.2.1
  obtain ⟨⟨len, hlen, tn⟩, te, tb⟩ := H.2.2.2.2.2.2.1
  obtain ⟨o1, o2, o3, o4, o5, o6, o7, o8, o9⟩ := H.2.2.2.1
  rcases within_0 a0 len (by omega) with ⟨wi, -⟩ | ⟨wi, n, hn', rfl⟩
  · have wi' : pX13_isIn (Int32.toInt64 a0) 0 (Int32.toInt64 (hI hr (B + 187) 8)) = 0 := by
      rw [← o2, tn]
      exact (isIn_w a0 0 (nI len)).trans wi
    have e8 : hI (sI (sI hr (B + 187) 1 0) (B + 187) 0 0) (B + 187) 8 = hI hr (B + 187) 8 := by rw [hI_sI, if_pos rfl, ud_n (by decide), hI_sI, if_pos rfl, ud_n (by decide)]
    refine ⟨-1, g, sI hc B 19 5, _, ?_, ?_, H.stat 5 0, Nat.le_refl _, by omega, Nat.le_refl _, by omega, Z⟩
    · show pX12_program E g hc B a0 = _
      unfold pX12_program
      rw [w_tg (st_0 S), tn, wi, if_pos rfl, k_refuse S, w_bd2]
      exact w_gq (pr := fun z : Int32 × MT × CT => z.2.1) ⟨Nat.le_refl _, Nat.le_refl _⟩
    · show pX13_program g hr (B + 187) a0 = _
      unfold pX13_program
      rw [w_tg (st_187 S), w_lt, w_lt, e8, wi', if_pos rfl, m_refuse S, w_bd2, sI_sI]
  have hn : n ≤ 900 := by omega
  have fu : 1000 < FUEL := by decide
  have wi2 : pX12_within (nI n) 0 (hI hr (B + 187) 8) = 1 := by rw [← o2, tn]; exact wi
  have tb' : ∀ k, isByte (hI hr (B + 191) k) := fun k => by rw [← te]; exact tb k
  obtain ⟨h1, ps, X1, X2, X3⟩ := k_start (h := hc) (kd := fun _ => 0) (vv := fun _ _ => 0) K S Z hn
  rw [te] at X1
  -- both read
  have both : ∀ gr, Sh B gr → ∃ h9, pX13_program gr hr (B + 187) (nI n) = pX13_program_l80 gr (B + 187) (nI n) FUEL h9 ∧ SFr B hr h9 ∧ BS B op st g hc h9 gr (hI hr (B + 191)) n none 0 (fun _ => 0) (fun _ _ => 0) 0 0 (gA (gA g 6 2) 25 30) h1 h9 := fun gr Sr => by
    obtain ⟨h9, r1, r2, r3, r4⟩ := rp_start Sr p2 tb' hn wi2
    refine ⟨h9, r1, r3, ⟨⟨none, 0, X1⟩, X2, X3, Nat.le_refl _, r2, HFr.rf B h9, ⟨?_, fun k hk => absurd hk (Nat.not_lt_zero _), fun x x1 x2 => r4 x (by omega) x2⟩, fun k hk => absurd hk (Nat.not_lt_zero _), fun k hk => absurd hk (Nat.not_lt_zero _), fun s hs => by cases hs⟩⟩
    rw [r4 989 (by omega) (by omega)]; rfl
  obtain ⟨R, hR1, m0, F0⟩ : ∃ R, PL E B (B + 10) (nI n) 0 (gA (gA g 6 2) 25 30) h1 R ∧ ∃ m', CB B g hc R.2.1 R.2.2 m' := by
    obtain ⟨h9, -, -, X⟩ := both g S
    rcases top_loop (q1 := nI n) (p1 := B + 10) (p2 := nI n) K S1 n FUEL 0 _ _ 0 0 _ h1 h9 (by omega) (by omega) X with ⟨kf, a, ⟨g', h', m', d1, -, -, d4⟩, -⟩ | ⟨m', kd', vv', g', h', hr', d1, -, -, -, d5, -⟩
    · exact ⟨_, d1, m', d4⟩
    · exact ⟨_, d1, m', d5⟩
  obtain ⟨ps1, ps2⟩ := ps R hR1
  obtain ⟨Z', f1, f2, f3, f4, f5⟩ := F0
  have S' : Sh B R.2.1 := S.more f4 ps2.1
  have M : Rel B op R.2.1 (hyb (gN g) hc R.2.2) hr := H.more Z (fun a ha => hyb_lt ha) f4 ps2.1
  have hy : ∀ a, a ≠ B + 11 → Eqa (hyb (gN g) hc R.2.2) R.2.2 a := fun a ha => by
    by_cases c : a < gN g
    · exact ((hyb_lt c).sy).tr (f5 a c ha)
    · exact hyb_ge c
  have bounds : gN g ≤ gN R.2.1 ∧ gN R.2.1 ≤ gN g + 40 ∧ gU g ≤ gU R.2.1 ∧ gU R.2.1 ≤ gU g + 500 := ⟨ps2.1, by omega, ps2.2, by omega⟩
  have topc : pX12_program E g hc B (nI n) = gq (fun z => z.2.1) g (gq (fun z => z.2.1) R.2.1 (tg R.2.1 B 11 (lt (sI R.2.2 B 2 0) fun h13 => (if R.1 = none then bd2 (pX12_refuse R.2.1 h13 B 10) fun x25 h23 => (some (x25, R.2.1, h23)) else lt (hR h13 B 4) fun r15 => (nn r15 fun a15 => (tg R.2.1 a15 3 (lt (sR h13 a15 8 R.1) fun h17 => (lt (sI h17 B 10 0) fun h18 => (nn R.1 fun a10 => (tg R.2.1 a10 6 (bd2 (pX12_answer R.2.1 h18 B (hI h18 a10 1)) fun x22 h20 => (some (x22, R.2.1, h20))))))))))))) := by
    unfold pX12_program
    rw [w_tg (st_0 S), tn, wi, if_neg (by decide), w_lt, w_lt, pc_0_3 p1, pc_0_1 p1, w_nn, w_tg (st_11 S), w_nn, ps1]
    rfl
  obtain ⟨h9, r1, r2, X⟩ := both R.2.1 S'
  rcases top_loop (q1 := nI n) (p1 := B + 10) (p2 := nI n) K S1 n FUEL 0 _ _ 0 0 _ h1 h9 (by omega) (by omega) X with ⟨kf, a, ⟨g', h', m', d1, d2, d3, d4⟩, hr', u1, u2, u3⟩ | ⟨m', kd', vv', g', h', hr', d1, d2, d3, d4, d5, u1, u2, u3, u4, u5, u6⟩
  · have eR := hR1.uni d1
    subst eR
    rw [u1] at r1
    have HS := r2.h u3
    have fin : pX13_program g' hr (B + 187) (nI n) = some (-1, sI (sI (sI hr' (B + 187) 10 kf) (B + 187) 11 a) (B + 187) 0 10) := by
      rw [r1]
      have g1 : hI (sI hr' (B + 187) 10 (hI hr' (B + 187) 12)) (B + 187) 12 = kf := by rw [hI_sI, if_pos rfl, ud_n (by decide)]; exact u2.2.1
      have g2 : hI (sI hr' (B + 187) 10 (hI hr' (B + 187) 12)) (B + 187) 13 = a := by rw [hI_sI, if_pos rfl, ud_n (by decide)]; exact u2.2.2.2
      have g3 : hI (sI (sI hr' (B + 187) 10 (hI hr' (B + 187) 12)) (B + 187) 11 a) (B + 187) 12 = hI hr' (B + 187) 12 := by rw [hI_sI, if_pos rfl, ud_n (by decide), g1]; exact u2.2.1.symm
      have p0 := u2.pos
      unfold pX13_program_b102
      rw [w_lt, g1, if_neg (by rw [← u2.2.1]; exact p0.2), g2]
      unfold pX13_program_b126
      rw [w_tg (st_187 S'), w_lt, g3, if_neg p0.1, m_refuse S', w_bd2, u2.2.1]
    have oC : OfC B [0, 11, 13] (hyb (gN g) hc h') (sI (sI h' B 2 0) B 19 10) := fun x _ z => ((hy x (z 11 (by simp))).sI (z 0 (by simp))).sI (z 0 (by simp))
    have oC2 : OfC B [0, 11] (hyb (gN g) hc h') (sI (sI h' B 2 0) B 19 10) := fun x _ z => ((hy x (z 11 (by simp))).sI (z 0 (by simp))).sI (z 0 (by simp))
    have oR : OfR B [187, 192] hr (sI (sI (sI hr' (B + 187) 10 kf) (B + 187) 11 a) (B + 187) 0 10) := fun x _ z => (((HS.2.1 x (z 187 (by simp)) (z 192 (by simp))).sI (z 187 (by simp))).sI (z 187 (by simp))).sI (z 187 (by simp))
    have hB : hI (hyb (gN g) hc h') B = hI h' B := (hy B (by omega)).1.symm
    have hBc : hI h' B = hI hc B := (f5 B (by omega) (by omega)).1
    have fB : ∀ k, k ≠ 2 → k ≠ 19 → hI (sI (sI h' B 2 0) B 19 10) B k = hI (hyb (gN g) hc h') B k := fun k k2 k19 => by rw [hI_sI, if_pos rfl, ud_n k19, hI_sI, if_pos rfl, ud_n k2, hB]
    have fR : ∀ k, k ≠ 0 → k ≠ 10 → k ≠ 11 → hI (sI (sI (sI hr' (B + 187) 10 kf) (B + 187) 11 a) (B + 187) 0 10) (B + 187) k = hI hr' (B + 187) k := fun k k0 k10 k11 => by rw [hI_sI, if_pos rfl, ud_n k0, hI_sI, if_pos rfl, ud_n k11, hI_sI, if_pos rfl, ud_n k10]
    have rw2 : ∀ x, hI (sI (sI (sI hr' (B + 187) 10 kf) (B + 187) 11 a) (B + 187) 0 10) (B + 192) x = hI hr' (B + 192) x := fun x => by rw [hI_sI, if_neg (by omega), hI_sI, if_neg (by omega), hI_sI, if_neg (by omega)]
    have d193 := oR.at 193 (by omega) (by omega) (by simp)
    refine ⟨-1, g', sI (sI h' B 2 0) B 19 10, _, ?_, fin, M.prog oC oR (fun x k nx _ => ?_) HS.1 ?_ (fB 6 (by decide) (by decide)) ⟨?_, ?_, ?_, ?_, ?_, ?_, ?_, ?_, ?_⟩ (fun i i1 i2 => by rw [rw2]; exact HS.2.2.2.2.2.2 i (by omega)) (M.2.2.2.2.2.2.2.1.keep2 M.1 oC2 rfl (by omega) rfl (fun i _ i2 => by rw [rw2]; exact HS.2.2.2.2.2.2 i (by omega)) (fun i _ _ => by rw [d193.2.2.1])) (M.2.2.2.2.2.2.2.2.2.1.keep oC oR rfl rfl (fB 9 (by decide) (by decide)) (fB 10 (by decide) (by decide))), bounds.1, bounds.2.1, bounds.2.2.1, bounds.2.2.2, Z'⟩
    · show pX12_program E g hc B (nI n) = _
      rw [topc, w_tg (st_0 S'), w_lt, if_pos rfl, k_refuse S', w_bd2, w_gq (pr := fun z : Int32 × MT × CT => z.2.1) (g1 := g') (r := (-1, g', sI (sI h' B 2 0) B 19 10)) ⟨Nat.le_refl _, Nat.le_refl _⟩]
      exact w_gq (pr := fun z : Int32 × MT × CT => z.2.1) ⟨bounds.1, bounds.2.2.1⟩
    · exact congrFun (hy x nx).2.2.2 k
    · rw [hI_sI, if_pos rfl, ud_n (by decide), hI_s]
    · rw [hI_s, hI_s]
    · rw [hI_sI, if_pos rfl, ud_n (by decide), hI_s, fR 8 (by decide) (by decide) (by decide)]; exact HS.2.2.2.2.1.symm
    · rw [fB 6 (by decide) (by decide), hB, hBc, fR 21 (by decide) (by decide) (by decide), HS.2.2.1 21 (by decide) (by decide) (by decide) (by decide) (by decide)]; exact o3
    · rw [fB 9 (by decide) (by decide), hB, hBc, fR 41 (by decide) (by decide) (by decide), HS.2.2.1 41 (by decide) (by decide) (by decide) (by decide) (by decide)]; exact o4
    · rw [fB 10 (by decide) (by decide), hB, hBc, fR 22 (by decide) (by decide) (by decide), HS.2.2.1 22 (by decide) (by decide) (by decide) (by decide) (by decide)]; exact o5
    · show hL h' (B + 130) 0 = hL hr' (B + 187) 2
      rw [(f5 (B + 130) (by omega) (by omega)).2.1, HS.2.2.2.2.2.1 2 (by decide)]; exact o6
    · rw [hI_sI, if_neg (by omega), hI_sI, if_neg (by omega), (f5 (B + 130) (by omega) (by omega)).1, fR 3 (by decide) (by decide) (by decide), HS.2.2.1 3 (by decide) (by decide) (by decide) (by decide) (by decide)]; exact o7
    · rw [hI_sI, if_neg (by omega), hI_sI, if_neg (by omega), d2, hI_sI, if_pos rfl, ud_n (by decide), hI_sI, if_pos rfl, ud_n (by decide), hI_s]
    · rw [hI_sI, if_neg (by omega), hI_sI, if_neg (by omega), d3, hI_sI, if_pos rfl, ud_n (by decide), hI_s]
  · have eR := hR1.uni d1
    subst eR
    rw [u1] at r1
    have HS := r2.h u4
    obtain ⟨wf, v19, pm⟩ := pi_ok d5.2.2.2.1 u5 u6
    have I1 : hI h' (gN g) 1 = nI m' := d4.2.2.2.2.1
    have T2 : QT B g' (sI (sI hr' (B + 187) 10 (hI hr' (B + 187) 12)) (B + 187) 11 (-1)) (hI hr (B + 191)) n := (u2.c22 (by decide)).c22 (by decide)
    obtain ⟨hF, t1, t2, t3, t4, t5, t6, t7⟩ := c_rows (q1 := nI n) 241 5 FUEL _ rfl (by omega) T2
    have rw2 : ∀ x, hI (sI (sI hr' (B + 187) 10 (hI hr' (B + 187) 12)) (B + 187) 11 (-1)) (B + 192) x = hI hr' (B + 192) x := fun x => by rw [hI_sI, if_neg (by omega), hI_sI, if_neg (by omega)]
    have e5 : hI hF (B + 192) 5 = nI m' := by
      rw [t6 5 (by omega) (by omega), rw2]
      exact u5.1
    have fin : pX13_program g' hr (B + 187) (nI n) = some (nI m', hF) := by
      rw [r1]
      have g1 : hI (sI hr' (B + 187) 10 (hI hr' (B + 187) 12)) (B + 187) 12 = 0 := by rw [hI_sI, if_pos rfl, ud_n (by decide)]; exact u3
      have g3 : hI (sI (sI hr' (B + 187) 10 (hI hr' (B + 187) 12)) (B + 187) 11 (-1)) (B + 187) 12 = 0 := by rw [hI_sI, if_pos rfl, ud_n (by decide), g1]
      unfold pX13_program_b102
      rw [w_lt, g1, if_pos rfl]
      unfold pX13_program_b126
      rw [w_tg (st_187 S'), w_lt, g3, if_pos (by decide), ← e5]
      exact t1
    have aR : ∀ x, x ≠ B + 187 → x ≠ B + 192 → Eqa hr hF x := fun x x1 x2 => (((HS.2.1 x x1 x2).sI x1).sI x1).tr (t3 x x1 x2)
    have fR : ∀ k, k ≠ 22 → k ≠ 10 → k ≠ 11 → hI hF (B + 187) k = hI hr' (B + 187) k := fun k k0 k10 k11 => by rw [t4, ud_n k0, hI_sI, if_pos rfl, ud_n k11, hI_sI, if_pos rfl, ud_n k10]
    have cA : ∀ x, x ≠ B → x ≠ B + 11 → x ≠ B + 13 → Eqa (hyb (gN g) hc h') (sI (sI (sR (sI h' B 2 0) (B + 13) 8 (some (gN g))) B 10 0) B 19 0) x := fun x x0 x1 x2 => ((((hy x x1).sI x0).sR x2).sI x0).sI x0
    have oC : OfC B [0, 11, 13] (hyb (gN g) hc h') (sI (sI (sR (sI h' B 2 0) (B + 13) 8 (some (gN g))) B 10 0) B 19 0) := fun x _ z => cA x (z 0 (by simp)) (z 11 (by simp)) (z 13 (by simp))
    have oR : OfR B [187, 192] hr hF := fun x _ z => aR x (z 187 (by simp)) (z 192 (by simp))
    have hB : hI (hyb (gN g) hc h') B = hI h' B := (hy B (by omega)).1.symm
    have hBc : hI h' B = hI hc B := (f5 B (by omega) (by omega)).1
    have fB : ∀ k, k ≠ 2 → k ≠ 10 → k ≠ 19 → hI (sI (sI (sR (sI h' B 2 0) (B + 13) 8 (some (gN g))) B 10 0) B 19 0) B k = hI (hyb (gN g) hc h') B k := fun k k2 k10 k19 => by
      rw [hI_sI, if_pos rfl, ud_n k19, hI_sI, if_pos rfl, ud_n k10]
      show hI (sI h' B 2 0) B k = _
      rw [hI_sI, if_pos rfl, ud_n k2, hB]
    have fI : ∀ x, x ≠ B → hI (sI (sI (sR (sI h' B 2 0) (B + 13) 8 (some (gN g))) B 10 0) B 19 0) x = hI h' x := fun x x0 => by
      rw [hI_sI, if_neg x0, hI_sI, if_neg x0]
      show hI (sI h' B 2 0) x = _
      rw [hI_sI, if_neg x0]
    have fP : ∀ x, hR (sI (sI (sR (sI h' B 2 0) (B + 13) 8 (some (gN g))) B 10 0) B 19 0) x = if x = B + 13 then ud (hR h' x) 8 (some (gN g)) else hR h' x := fun x => by
      show hR (sR h' (B + 13) 8 (some (gN g))) x = _
      rw [hR_sR]
      by_cases e : x = B + 13
      · rw [if_pos e, if_pos e, e]
      · rw [if_neg e, if_neg e]
    have d193 := oR.at 193 (by omega) (by omega) (by simp)
    have las := M.2.2.2.2.2.2.2.2.2.1
    have l8 := (oC.at 138 (by omega) (by simp)).1
    have k1 := (oR.at 201 (by omega) (by omega) (by simp)).1
    refine ⟨nI m', g', sI (sI (sR (sI h' B 2 0) (B + 13) 8 (some (gN g))) B 10 0) B 19 0, hF, ?_, fin, M.prog oC oR (fun x k nx n8 => ?_) (t2.trans HS.1) ?_ (fB 6 (by decide) (by decide) (by decide)) ⟨?_, ?_, ?_, ?_, ?_, ?_, ?_, ?_, ?_⟩ (fun i i1 i2 => by rw [t7 i (by omega), rw2]; exact HS.2.2.2.2.2.2 i (by omega)) ⟨?_, gN g, (m', mkP kd' vv'), ?_, by omega, wf, ?_, ?_⟩ ⟨?_, ?_, fun z => ?_, fun z => ?_⟩, bounds.1, bounds.2.1, bounds.2.2.1, bounds.2.2.2, Z'⟩
    · show pX12_program E g hc B (nI n) = _
      have p13 : hR (sI h' B 2 0) B 4 = some (B + 13) := by
        show hR h' B 4 = _
        rw [(f5 B (by omega) (by omega)).2.2.2]; exact pc_0_4 p1
      have i18 : hI (sI (sR (sI h' B 2 0) (B + 13) 8 (some (gN g))) B 10 0) (gN g) 1 = nI m' := by
        rw [hI_sI, if_neg (by omega)]
        show hI (sI h' B 2 0) (gN g) 1 = _
        rw [hI_sI, if_neg (by omega)]; exact I1
      rw [topc, w_tg (st_0 S'), w_lt, if_neg (fun w => by cases w), w_lt, p13, w_nn, w_tg (st_13 S'), w_lt, w_lt, w_nn, w_tg d4.1, i18]
      unfold pX12_answer
      rw [w_tg (st_0 S'), w_lt, w_bd2, w_gq (pr := fun z : Int32 × MT × CT => z.2.1) (g1 := g') (r := (nI m', g', sI (sI (sR (sI h' B 2 0) (B + 13) 8 (some (gN g))) B 10 0) B 19 0)) ⟨Nat.le_refl _, Nat.le_refl _⟩]
      exact w_gq (pr := fun z : Int32 × MT × CT => z.2.1) ⟨bounds.1, bounds.2.2.1⟩
    · rw [fP]
      by_cases e : x = B + 13
      · rw [if_pos e, ud_n (fun w => n8 ⟨e, w⟩), congrFun (hy x nx).2.2.2 k]
      · rw [if_neg e, congrFun (hy x nx).2.2.2 k]
    · rw [hI_sI, if_pos rfl, ud_n (by decide), hI_sI, if_pos rfl, ud_n (by decide)]
      show hI (sI h' B 2 0) B 2 = 0
      rw [hI_s]
    · rw [hI_s, fR 0 (by decide) (by decide) (by decide)]; exact HS.2.2.2.1.symm
    · rw [hI_sI, if_pos rfl, ud_n (by decide), hI_sI, if_pos rfl, ud_n (by decide), fR 8 (by decide) (by decide) (by decide)]
      show hI (sI h' B 2 0) B 2 = _
      rw [hI_s]; exact HS.2.2.2.2.1.symm
    · rw [fB 6 (by decide) (by decide) (by decide), hB, hBc, fR 21 (by decide) (by decide) (by decide), HS.2.2.1 21 (by decide) (by decide) (by decide) (by decide) (by decide)]; exact o3
    · rw [fB 9 (by decide) (by decide) (by decide), hB, hBc, fR 41 (by decide) (by decide) (by decide), HS.2.2.1 41 (by decide) (by decide) (by decide) (by decide) (by decide)]; exact o4
    · rw [hI_sI, if_pos rfl, ud_n (by decide), hI_s, t4, ud_s]
    · show hL h' (B + 130) 0 = hL hF (B + 187) 2
      rw [(f5 (B + 130) (by omega) (by omega)).2.1, t5]
      show hL hc (B + 130) 0 = hL hr' (B + 187) 2
      rw [HS.2.2.2.2.2.1 2 (by decide)]; exact o6
    · rw [fI _ (by omega), (f5 (B + 130) (by omega) (by omega)).1, fR 3 (by decide) (by decide) (by decide), HS.2.2.1 3 (by decide) (by decide) (by decide) (by decide) (by decide)]; exact o7
    · rw [fI _ (by omega), d2, t4, ud_n (by decide), hI_sI, if_pos rfl, ud_n (by decide), hI_s, u3]
    · rw [fI _ (by omega), d3, t4, ud_n (by decide), hI_s]
    · have md := M.2.2.2.2.2.2.2.1.1
      rw [d193.2.2.1]
      refine md.keep3 (fun j hj => ?_) (fun i i1 i2 => by rw [t7 i (by omega), rw2]; exact HS.2.2.2.2.2.2 i (by omega))
      rw [fI _ (by omega), (hy (B + 13 + j) (by omega)).1]
      exact ⟨rfl, (hy (B + 13 + j) (by omega)).2.2.1⟩
    · rw [fP, if_pos rfl, ud_s]
    · obtain ⟨c1, c2, c3, c4, c5, c6⟩ := d4
      refine CI.prg ⟨c1, by rw [fP, if_neg (by omega)]; exact c2, c3, c4, by rw [fI _ (by omega)]; exact c5, fun k hk => ?_⟩ v19
      rw [fP, if_neg (by omega), fP, if_neg (by omega), fI _ (by omega)]
      exact c6 k hk
    · exact pm.keep2 d5.2.2.2.1 (fun i i1 i2 => by rw [t6 i (by omega) (by omega), rw2])
    · rw [fB 9 (by decide) (by decide) (by decide)]; exact las.1
    · rw [hI_sI, if_pos rfl, ud_n (by decide), hI_s]; exact is01_0
    · rw [fB 9 (by decide) (by decide) (by decide)] at z
      rw [l8, k1]
      exact las.2.2.1 z
    · rw [hI_sI, if_pos rfl, ud_n (by decide), hI_s] at z
      exact absurd z (by decide)
end CPR
