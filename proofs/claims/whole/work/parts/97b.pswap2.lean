/-! run: the call -/
section CRUN2
variable {B b L : Nat} {E : EC} {xs : Nat → Int32} {op st bt : Nat → Nat} {aL aS aO : Nat} {g : MT} {h h' h1 h2 hc hr hr' hr1 : CT} {q z p pp : Nat} {π : Pg} {k n nb y t T : Nat}
def wRun : List Nat := [0, 13, 14, 15, 16, 17, 18, 19, 20, 21, 22, 23, 24, 25, 26, 27, 28, 29, 30, 31, 32, 33, 34, 35, 36, 37, 38, 39, 130, 132, 133, 134, 135, 136, 137, 138, 139, 140, 141, 142, 143, 144]
def wRunR : List Nat := [187, 192, 193, 194, 195, 196, 197, 198, 199, 200, 201, 202, 203]
theorem wRun_ok : okM wRun = true ∧ okW wRun = true ∧ okN wRunR = true := by decide +kernel
theorem wRun_of : ∀ n, n < 205 → ¬ n ∈ wRun → n ≠ 0 ∧ (n < 13 ∨ 39 < n) ∧ (n < 138 ∨ 144 < n) ∧ (n < 130 ∨ 137 < n ∨ n = 131) := by decide +kernel
theorem wRunR_of : ∀ n, n < 205 → 187 ≤ n → ¬ n ∈ wRunR → n ≠ 187 ∧ (n < 192 ∨ 203 < n) := by decide +kernel
theorem wRun_at {a : Nat} (H : ∀ w ∈ wRun, a ≠ B + w) : a ≠ B ∧ (a < B + 13 ∨ B + 39 < a) ∧ (a < B + 138 ∨ B + 144 < a) ∧ (a < B + 130 ∨ B + 137 < a ∨ a = B + 131) := by
  by_cases c : B ≤ a ∧ a < B + 205
  · have := wRun_of (a - B) (by omega) (fun m => H _ m (by omega))
    omega
  · omega
theorem wRunR_at {a : Nat} (r : RZ B a) (H : ∀ w ∈ wRunR, a ≠ B + w) : a ≠ B + 187 ∧ (a < B + 192 ∨ B + 203 < a) := by
  have r1 := r.1
  have r2 := r.2
  have := wRunR_of (a - B) (by omega) (by omega) (fun m => H _ m (by omega))
  omega
theorem gok_neg {v : Nat} (hv : v < 2 ^ 30) : ¬ nI v = -1 := fun w => by
  have := congrArg Int32.toInt w
  rw [nI_toInt (by omega), show (-1 : Int32).toInt = -1 from rfl] at this
  omega
/-- what a run leaves for ran, began, taken -/
theorem las_of {x y hc' : CT} (hz : ∀ k, hI hc' (B + 138) k = hI h (B + 138) k) (h139 : hI hc' (B + 139) = hI h (B + 139)) (h140 : hI hc' (B + 140) = hI h (B + 140)) (b9 : hI hc' B 9 = 1) (b10 : hI hc' B 10 = 1) {yy T : Nat} (hT : T < 2 ^ 30) (EE : EN B q (B + 138) yy T h x)
    (m201 : hI y (B + 201) 0 = hI x (B + 187) 34 ∧ hI y (B + 201) 1 = hI x (B + 187) 35 ∧ hI y (B + 201) 2 = hI x (B + 187) 36 ∧ hI y (B + 201) 3 = hI x (B + 187) 37 ∧ hI y (B + 201) 4 = (if hI x (B + 187) 37 ≤ 0 then -1 else hI x (B + 187) 38) ∧ hI y (B + 201) 5 = (if hI x (B + 187) 37 ≤ 0 then -1 else hI x (B + 187) 39))
    (m2 : ∀ k, k < 30 → hI y (B + 202) k = hI x (B + 198) k ∧ hI y (B + 203) k = hI x (B + 199) k) : LasR B hc' y := by
  obtain ⟨F, G, D, C, Ct, hF, hG, sc, fin⟩ := EE
  obtain ⟨m0, m1, m2', m3, m4, m5⟩ := m201
  have k0 : hI h (B + 138) 0 = hI x (B + 187) 34 := (C.1 0 (by decide)).trans (Ct.1 0 (by decide)).symm
  have k1 : hI h (B + 138) 1 = hI x (B + 187) 35 := (C.1 1 (by decide)).trans (Ct.1 1 (by decide)).symm
  have k2 : hI h (B + 138) 2 = hI x (B + 187) 36 := (C.1 2 (by decide)).trans (Ct.1 2 (by decide)).symm
  have p0 : ∀ j, isO j → 0 ≤ (hI h (B + 138) j).toInt := fun j hj => by
    rw [C.1 j hj, nI_toInt (by have := hF 0 j; omega)]; omega
  refine ⟨Or.inr b9, Or.inr b10, fun _ => ?_, fun _ k hk => ?_⟩
  · simp only [hz]
    rcases fin with ⟨⟨t3, t4, t5⟩, t37⟩ | ⟨ik, hk, c, i, c1, c3, hi, ⟨t3, t4, t5⟩, t37, t38, t39, -⟩
    · rw [if_pos (by rw [t37]; decide)] at m4 m5
      refine ⟨fun j hj => ?_, fun j hj => ?_, fun _ => ⟨t4, t5⟩, fun w => absurd t3 w⟩
      · rcases (show j = 0 ∨ j = 1 ∨ j = 2 ∨ j = 3 ∨ j = 4 ∨ j = 5 by omega) with rfl | rfl | rfl | rfl | rfl | rfl
        · rw [k0, m0]
        · rw [k1, m1]
        · rw [k2, m2']
        · rw [t3, m3, t37]
        · rw [t4, m4]
        · rw [t5, m5]
      · rcases (show j = 0 ∨ j = 1 ∨ j = 2 ∨ j = 3 by omega) with rfl | rfl | rfl | rfl
        · exact p0 0 (by decide)
        · exact p0 1 (by decide)
        · exact p0 2 (by decide)
        · rw [t3]; decide
    · have np : ¬ hI x (B + 187) 37 ≤ 0 := by rw [t37, Int32.le_iff_toInt_le, nI_toInt (by omega)]; show ¬ (c : Int) ≤ 0; omega
      rw [if_neg np] at m4 m5
      refine ⟨fun j hj => ?_, fun j hj => ?_, fun w => ?_, fun w => ?_⟩
      · rcases (show j = 0 ∨ j = 1 ∨ j = 2 ∨ j = 3 ∨ j = 4 ∨ j = 5 by omega) with rfl | rfl | rfl | rfl | rfl | rfl
        · rw [k0, m0]
        · rw [k1, m1]
        · rw [k2, m2']
        · rw [t3, m3, t37]
        · rw [t4, m4, t38]
        · rw [t5, m5, t39]
      · rcases (show j = 0 ∨ j = 1 ∨ j = 2 ∨ j = 3 by omega) with rfl | rfl | rfl | rfl
        · exact p0 0 (by decide)
        · exact p0 1 (by decide)
        · exact p0 2 (by decide)
        · rw [t3, nI_toInt (by omega)]; omega
      · rw [t3] at w
        have := (nI_eq (a := c) (b := 0) (by omega) (by omega)).mp w
        omega
      · rw [t4, t5, nI_toInt (by omega), nI_toInt (by omega)]; omega
  · have e1 : hI h (B + 139) k = G 1 k := C.2.2.2 1 k (by omega) (by omega) hk
    have e2 : hI h (B + 140) k = G 2 k := C.2.2.2 2 k (by omega) (by omega) hk
    have d1 := Ct.2.2.2.2.1 k hk
    have d2 := Ct.2.2.2.2.2 k hk
    rw [h139, h140, e1, e2, (m2 k hk).1, (m2 k hk).2, d1]
    refine ⟨rfl, ?_⟩
    rcases hG k hk with ⟨g1, g2⟩ | ⟨⟨v, hv, g1⟩, g2⟩
    · exact Or.inl ⟨g1, g2⟩
    · have d2' : hI x (B + 199) k = G 2 k := d2.resolve_left (fun w => gok_neg hv (g1.symm.trans w))
      refine Or.inr ⟨by rw [g1, nI_toInt (by omega)]; omega, d2'.symm, ?_⟩
      rcases g2 with g2 | ⟨w, hw, g2⟩
      · rw [g2]; decide
      · rw [g2, nI_toInt (by omega)]; omega
theorem C_run (K : EOK E b L xs op st bt aL aS aO) : K_run B E op := by
  intro g hc hr H
  obtain ⟨S, p1, p2, r1, r2, r3, r4, r5, r6, r7, r8⟩ := id H
  obtain ⟨DM0, pp, π, e8, n174, wf, PC, PM⟩ := r5
  have DM0 : DM B (B + 13) hc hr := DM0
  have PM : PgM (hI hr (B + 192)) 0 π := PM
  obtain ⟨q1, q2, q3, q4, q5, q6, q7, q8, q9⟩ := r1
  have h30 := wf.1
  have m0 : hI (sI (sI hr (B + 187) 1 0) (B + 187) 0 0) (B + 192) = hI hr (B + 192) := by rw [hI_sI, if_neg (by omega), hI_sI, if_neg (by omega)]
  have PM0 : PgM (hI (sI (sI hr (B + 187) 1 0) (B + 187) 0 0) (B + 192)) 0 π := by rw [m0]; exact PM
  by_cases n0 : π.1 = 0
  · have e1 : hI hc pp 1 = 0 := by rw [PC.2.2.2.2.1, n0]; rfl
    have e2 : hI (sI (sI hr (B + 187) 1 0) (B + 187) 0 0) (B + 192) 5 = 0 := (PM0.1).trans (by rw [n0]; rfl)
    refine ⟨-1, _, _, ?_, ?_, H.stat 8 0⟩
    · simp only [pX12_run, w_tg (st_0 S), w_lt, pc_0_4 p1, w_nn, w_tg (st_13 S), e8, w_tg PC.1, if_pos e1, k_refuse S, w_bd2]
    · have r19 : hR (sI (sI hr (B + 187) 1 0) (B + 187) 0 0) (B + 187) 19 = some (B + 192) := pr_187_19 p2
      simp only [pX13_run, w_tg (st_187 S), w_lt]
      rw [r19, w_nn, w_tg (st_192 S), sl_192 S, w_ixl (show 5 < 1476 by decide) (by decide), cl_l 5 (by decide), if_pos e2, m_refuse S, w_bd2, sI_sI]
  have e1 : ¬ hI hc pp 1 = 0 := by
    rw [PC.2.2.2.2.1]
    exact fun w => n0 ((nI_eq (b := 0) (by omega) (by omega)).mp w)
  have e2 : ¬ hI (sI (sI hr (B + 187) 1 0) (B + 187) 0 0) (B + 192) 5 = 0 := by
    have := PM0.1
    rw [show 0 + 5 = 5 from rfl] at this
    rw [this]
    exact fun w => n0 ((nI_eq (b := 0) (by omega) (by omega)).mp w)
  have DM1 : DM B (B + 13) hc (sI (sI hr (B + 187) 1 0) (B + 187) 0 0) := MacD.keep2 (hc := hc) (cc := hI hr (B + 192)) (vv := hD hr (B + 193)) (fun j _ => ⟨rfl, rfl⟩) (fun _ _ _ => by rw [m0]) (fun _ _ _ => rfl) DM0
  have Q : QZ B (B + 13) (B + 138) := Or.inl ⟨rfl, rfl⟩
  obtain ⟨h', x, y, -, u1, u2, u3, u4, u5⟩ := both_run (hr := sI (sI hr (B + 187) 1 0) (B + 187) 0 0) K S Q wf p1 p2 r2 ⟨r8.1, r8.2.1⟩ DM1 PC PM0 e8
  have p1' := u4.ptc p1
  have p2' : PtR B (hR x) := by rw [u5.1]; exact p2
  obtain ⟨w, t1, t2, t3, t4, t5, t6, t7, t8, t9⟩ := r_keepRun S p2' (if hI x (B + 187) 37 ≤ 0 then -1 else hI x (B + 187) 38) (if hI x (B + 187) 37 ≤ 0 then -1 else hI x (B + 187) 39)
  -- the reference's call
  have n201 : ∀ (h : CT) k v, hI (sI h (B + 201) k v) (B + 187) = hI h (B + 187) := fun h k v => by rw [hI_sI, if_neg (by omega)]
  have ref : pX13_run g hr (B + 187) = if hI x (B + 187) 37 ≤ 0 then some (hI x (B + 187) 36, w) else some (-1, sI w (B + 187) 0 12) := by
    have r19 : hR (sI (sI hr (B + 187) 1 0) (B + 187) 0 0) (B + 187) 19 = some (B + 192) := pr_187_19 p2
    rw [← t1]
    unfold pX13_run
    rw [w_tg (st_187 S), w_lt, w_lt, w_lt, r19, w_nn, w_tg (st_192 S), sl_192 S, w_ixl (show 5 < 1476 by decide) (by decide), cl_l 5 (by decide), if_neg e2, u2, w_bd]
    simp only [w_lt, hR_sI, pr_187_45 p2', w_nn, w_tg (st_201 S), sl_201 S]
    rw [w_ixl (show 0 < 6 by decide) (by decide), w_ixl (show 1 < 6 by decide) (by decide), w_ixl (show 2 < 6 by decide) (by decide), w_ixl (show 3 < 6 by decide) (by decide), cl_l 0 (by decide), cl_l 1 (by decide), cl_l 2 (by decide), cl_l 3 (by decide)]
    simp only [n201]
    unfold pX13_run_b90 pX13_run_b111
    simp only [w_lt, hR_sI, pr_187_45 p2', w_nn, w_tg (st_201 S), sl_201 S, n201]
    rw [w_ixl (show 4 < 6 by decide) (by decide), cl_l 4 (by decide)]
    simp only [w_ixl (show 5 < 6 by decide) (show 6 < 2 ^ 31 by decide), cl_l 5 (by decide)]
    by_cases c : hI x (B + 187) 37 ≤ 0
    · simp only [if_pos c]
    · simp only [if_neg c]
      exact w_ixl (show 4 < 6 by decide) (by decide) _
  -- the class's call
  have z13 : MachA g (hR hc) (B + 13) := machA_13 S p1
  have cls : pX12_run E g hc B = if hI h' (B + 138) 3 = 0 then some (hI h' (B + 138) 2, sI (sI (sI h' B 9 1) B 10 1) B 19 0) else some (-1, sI (sI (sI h' B 9 1) B 10 1) B 19 12) := by
    have ez : hI (sI (sI h' B 9 1) B 10 1) (B + 138) = hI h' (B + 138) := by rw [hI_sI, if_neg (by omega), hI_sI, if_neg (by omega)]
    unfold pX12_run
    simp only [w_tg (st_0 S), w_lt, pc_0_4 p1, w_nn, w_tg (st_13 S), e8, w_tg PC.1, if_neg e1, pc_0_7 p1, pc_0_8 p1, w_tg (st_132 S), u1, w_bd, hR_sI, pc_0_8 p1', w_tg (st_138 S), ez, k_answer S, k_refuse S, w_bd2]
  -- both stand alike after it
  have o187 : ∀ k, k ≠ 41 → k ≠ 22 → ¬ (29 ≤ k ∧ k ≤ 44 ∧ k ≠ 41) → k ≠ 0 → k ≠ 1 → hI w (B + 187) k = hI hr (B + 187) k := fun k k1 k2 k3 k4 k5 => by
    rw [t4 k k1 k2, u5.2.2.1 k k3, hI_sI, if_pos rfl, ud_n k4, hI_sI, if_pos rfl, ud_n k5]
  have rel : ∀ (v : Int32) (W : CT), hR W = hR w → (∀ a, a ≠ B + 187 → Eqa w W a) → hL W (B + 187) = hL w (B + 187) → (∀ k, k ≠ 0 → hI W (B + 187) k = hI w (B + 187) k) → hI W (B + 187) 0 = v → Rel B op g (sI (sI (sI h' B 9 1) B 10 1) B 19 v) W := fun v W eR eO eL e0 ev => by
    generalize hH : sI (sI (sI h' B 9 1) B 10 1) B 19 v = hC
    have cO : ∀ a, a ≠ B → Eqa h' hC a := fun a c => by rw [← hH]; exact (((Eqa.rf h' a).sI c).sI c).sI c
    have cR : hR hC = hR h' := by rw [← hH]; rfl
    have cL : hL hC = hL h' := by rw [← hH]; rfl
    have cD : hD hC = hD h' := by rw [← hH]; rfl
    have cB : ∀ k, hI hC B k = ud (ud (ud (hI h' B) 9 1) 10 1) 19 v k := fun k => by rw [← hH, hI_sI, if_pos rfl, hI_sI, if_pos rfl, hI_sI, if_pos rfl]
    have bB := u4.2.1 B (by omega) (by omega) (by omega)
    have cBn : ∀ k, k ≠ 9 → k ≠ 10 → k ≠ 19 → hI hC B k = hI hc B k := fun k k1 k2 k3 => by rw [cB, ud_n k3, ud_n k2, ud_n k1, bB.1]
    have oC : OfC B wRun hc hC := fun a _ z => by
      obtain ⟨a1, a2, a3, a4⟩ := wRun_at z
      have n132 : a ≠ B + 132 := fun e => z 132 (by decide) e
      have b1 := u4.2.1 a (by omega) (by omega) a4
      exact Eqa.tr ⟨b1.1, b1.2.1, b1.2.2, funext fun k => u4.1 a k (fun c => n132 c.1)⟩ (cO a a1)
    have e01 : ∀ a, a ≠ B + 187 → Eqa hr (sI (sI hr (B + 187) 1 0) (B + 187) 0 0) a := fun a c => ((Eqa.rf hr a).sI c).sI c
    have oRa : ∀ a, a ≠ B + 187 → (a < B + 192 ∨ B + 203 < a) → Eqa hr W a := fun a a1 a2 => (((e01 a a1).tr (u5.2.1 a a1 (by omega))).tr (t3 a a1 (by omega))).tr (eO a a1)
    have oR : OfR B wRunR hr W := fun a r z => by
      obtain ⟨a1, a2⟩ := wRunR_at r z
      exact oRa a a1 a2
    have W192 : ∀ i, 5 ≤ i → hI W (B + 192) i = hI hr (B + 192) i := fun i hi => by
      rw [(eO (B + 192) (by omega)).1, (t3 (B + 192) (by omega) (by omega)).1, u5.2.2.2.2.1 i hi, m0]
    have W193 : ∀ i, 164 ≤ i → hD W (B + 193) i = hD hr (B + 193) i := fun i hi => by
      rw [(eO (B + 193) (by omega)).2.2.1, (t3 (B + 193) (by omega) (by omega)).2.2.1, u5.2.2.2.2.2 i hi]; rfl
    have DE : DM B (B + 13) h' x := by
      obtain ⟨F, G, D, -⟩ := u3
      exact D
    have DW : MacD hC (B + 13) (hI W (B + 192)) (hD W (B + 193)) 0 0 := MacD.keep2 (hc := h') (cc := hI x (B + 192)) (vv := hD x (B + 193)) (fun j hj => ⟨(cO _ (by omega)).1, (cO _ (by omega)).2.2.1⟩) (fun _ _ _ => by rw [(eO (B + 192) (by omega)).1, (t3 (B + 192) (by omega) (by omega)).1]) (fun _ _ _ => by rw [(eO (B + 193) (by omega)).2.2.1, (t3 (B + 193) (by omega) (by omega)).2.2.1]) DE
    have f187 : ∀ k, k ≠ 41 → k ≠ 22 → ¬ (29 ≤ k ∧ k ≤ 44 ∧ k ≠ 41) → k ≠ 0 → k ≠ 1 → hI W (B + 187) k = hI hr (B + 187) k := fun k k1 k2 k3 k4 k5 => by rw [e0 k k4]; exact o187 k k1 k2 k3 k4 k5
    have z138 := cO (B + 138) (by omega)
    refine H.mac oC oR wRun_ok.1 wRun_ok.2.1 wRun_ok.2.2 (by rw [cR]; exact p1') (by rw [eR, t2]; exact p2') (fun i i1 _ => W192 i (by omega)) (fun i i1 _ => W193 i i1) (cBn 2 (by decide) (by decide) (by decide)) (cBn 6 (by decide) (by decide) (by decide)) ?_ ⟨DW, ?_⟩ ?_ ?_
    · refine ⟨?_, ?_, ?_, ?_, ?_, ?_, ?_, ?_, ?_⟩
      · rw [cB, ev]; rfl
      · rw [cBn 2 (by decide) (by decide) (by decide), f187 8 (by decide) (by decide) (by decide) (by decide) (by decide)]; exact q2
      · rw [cBn 6 (by decide) (by decide) (by decide), f187 21 (by decide) (by decide) (by decide) (by decide) (by decide)]; exact q3
      · rw [cB, e0 41 (by decide), t6]; rfl
      · rw [cB, e0 22 (by decide), t7]; rfl
      · rw [cL, u4.2.2.2.1 0 (by decide), eL, t5, u5.2.2.2.1]; exact q6
      · rw [(cO (B + 130) (by omega)).1, u4.2.2.1 1 (by decide), f187 3 (by decide) (by decide) (by decide) (by decide) (by decide)]; exact q7
      · rw [(cO (B + 11) (by omega)).1, (u4.2.1 (B + 11) (by omega) (by omega) (by omega)).1, f187 10 (by decide) (by decide) (by decide) (by decide) (by decide)]; exact q8
      · rw [(cO (B + 11) (by omega)).1, (u4.2.1 (B + 11) (by omega) (by omega) (by omega)).1, f187 11 (by decide) (by decide) (by decide) (by decide) (by decide)]; exact q9
    · exact H.2.2.2.2.2.2.2.1.2.keep2 S oC wRun_ok.2.1 (by rw [cR, u4.1 _ _ (by omega)]) (fun i i1 _ => W192 i (by omega))
    · refine las_of (h := h') (x := x) (q := B + 13) (fun k => by rw [z138.1]) (cO (B + 139) (by omega)).1 (cO (B + 140) (by omega)).1 (by rw [cB]; rfl) (by rw [cB]; rfl) (T := 300 * (14 * π.1)) (by omega) u3 ?_ (fun k hk => ⟨?_, ?_⟩)
      · rw [(eO (B + 201) (by omega)).1]; exact t8
      · rw [(eO (B + 202) (by omega)).1]; exact (t9 k hk).1
      · rw [(eO (B + 203) (by omega)).1]; exact (t9 k hk).2
    · have k136 : ∀ n, 183 ≤ n → n ≤ 186 → hI hC (B + n) = hI hc (B + n) := fun n n1 n2 => by rw [(cO (B + n) (by omega)).1, (u4.2.1 (B + n) (by omega) (by omega) (by omega)).1]
      refine ⟨by rw [(cO (B + 136) (by omega)).1]; exact u4.2.2.2.2.1, by rw [(cO (B + 137) (by omega)).1]; exact u4.2.2.2.2.2, ?_⟩
      rw [k136 183 (by omega) (by omega), k136 184 (by omega) (by omega), k136 185 (by omega) (by omega), k136 186 (by omega) (by omega)]
      exact r8.2.2
  rw [show (fun g h => pX12_run E g h B) g hc = pX12_run E g hc B from rfl, show (fun g h => pX13_run g h (B + 187)) g hr = pX13_run g hr (B + 187) from rfl, cls, ref]
  have w0 : hI w (B + 187) 0 = 0 := by rw [t4 0 (by decide) (by decide), u5.2.2.1 0 (by decide), hI_s]
  obtain ⟨F, G, -, C, Ct, -, -, -, fin⟩ := id u3
  rcases fin with ⟨⟨t3', -, -⟩, t37⟩ | ⟨ik, hk, c, i, c1, c3, hi, ⟨t3', -, -⟩, t37, -⟩
  · rw [if_pos t3', if_pos (by rw [t37]; decide)]
    have e : hI h' (B + 138) 2 = hI x (B + 187) 36 := (C.1 2 (by decide)).trans (Ct.1 2 (by decide)).symm
    exact ⟨_, _, _, rfl, by rw [e], rel 0 w rfl (fun a _ => Eqa.rf w a) rfl (fun _ _ => rfl) w0⟩
  · rw [if_neg (by rw [t3']; exact fun w => absurd ((nI_eq (a := c) (b := 0) (by omega) (by omega)).mp w) (by omega)), if_neg (by rw [t37, Int32.le_iff_toInt_le, nI_toInt (by omega)]; show ¬ (c : Int) ≤ 0; omega)]
    exact ⟨_, _, _, rfl, rfl, rel 12 _ rfl (fun a c => (Eqa.rf w a).sI c) rfl (fun k hk => by rw [hI_sI, if_pos rfl, ud_n hk]) (by rw [hI_s])⟩
end CRUN2
