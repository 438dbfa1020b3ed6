/-! fold, top, in both -/
section FTB
variable {B b L : Nat} {E : EC} {xs : Nat → Int32} {op st bt : Nat → Nat} {aL aS aO : Nat} {g : MT} {h h1 hr hr1 : CT} {q z p : Nat} {f : Nat → Nat} {ik n nb y t T : Nat} {F : Nat → Nat → Nat} {G G0 : Nat → Nat → Int32}
theorem fold_both2 (K : EOK E b L xs op st bt aL aS aO) (S : Sh B g) (Q : QZ B q z) (X : MS B q z g nb y h hr) (I : IC op g h p f) (M : IM B hr ik f) (hf : FOK f) (hk : ik < 30) (hfo : isFo (f 0)) (hn : n ≤ 16) (e5 : hI h q 5 = nI n) (v0 : hI hr (B + 192) 0 = nI n) (C : TC z h F G) (Ct : TR B y hr F G) (hF : ∀ a j, F a j ≤ T) (hT : T + 200 < 2 ^ 30) (h8 : F 0 8 = t + 1) :
    (∃ h' hr' e, e ≤ t + 48 ∧ pX9_doAtOnce E g h (B + 132) (nI ik) p = some (1, h') ∧ pX13_folds g hr (B + 187) (nI ik) (nI t) = some hr' ∧ MS B q z g nb y h' hr' ∧ TC z h' (enF (foF F (f 1) n t) e) (up2 G 2 ik (nI e)) ∧ TR B y hr' (enF (foF F (f 1) n t) e) (up2 G 2 ik (nI e)) ∧ NFr B q z h h' ∧ MFr B hr hr' ∧ ∀ j, j = 3 ∨ j = 4 ∨ j = 5 → hI h' z j = hI h z j)
    ∨ ∃ h' hr', pX9_doAtOnce E g h (B + 132) (nI ik) p = some (0, h') ∧ pX13_folds g hr (B + 187) (nI ik) (nI t) = some hr' ∧ DM B q h' hr' ∧ TC z h' F G ∧ TR B y hr' F G ∧ TrapF B z h' hr' ik ∧ NFr B q z h h' ∧ MFr B hr hr' := by
  obtain ⟨R, p2, D, ⟨e6, e7⟩, ⟨v1, v2⟩, eb, tr0, ov0⟩ := X
  have T136 := st_136 S
  have u8 := hF 0 8
  have u0 := hF 0 0
  have hp := ic_out S I.1
  have s4 := hf.2.2.2.2.1
  have d6 := hf.2.1
  have e29 : E.1 29 = .ref (op 24) := e_st K 24 (by decide)
  have hf28 : f 0 < 28 := by omega
  obtain ⟨a0, a1, a2, a3, a4, a5, a6, a7⟩ := im_at S p2 hk M
  rw [if_neg (show ¬ (f 0 = 3 ∨ f 0 = 4) by omega)] at a5
  have sw : ∀ k, k = 23 ∨ k = 24 → swV.getD k 0 = 4 ∨ swV.getD k 0 = 5 := by
    intro k hk
    rcases hk with rfl | rfl
    · exact Or.inl rfl
    · exact Or.inr rfl
  have cl : ∀ r h', is01 r → pX9_doFold E g h (B + 132) (nI ik) p = some (r, h') → pX9_doAtOnce E g h (B + 132) (nI ik) p = some (r, h') := fun r h' hr e => by
    rw [k_sw K S I hf]
    rcases sw (f 0) hfo with w | w
    · rw [w]
      show (if (4 : Int32) = 1 then _ else if (4 : Int32) = 2 then _ else if (4 : Int32) = 3 then _ else if (4 : Int32) = 4 then _ else _) = _
      rw [if_neg (by decide), if_neg (by decide), if_neg (by decide), if_pos rfl, e, w_bd2, w_bz hr]
    · rw [w]
      show (if (5 : Int32) = 1 then _ else if (5 : Int32) = 2 then _ else if (5 : Int32) = 3 then _ else if (5 : Int32) = 4 then _ else if (5 : Int32) = 5 then _ else _) = _
      rw [if_neg (by decide), if_neg (by decide), if_neg (by decide), if_neg (by decide), if_pos rfl, e, w_bd2, w_bz hr]
  have ms := mac_missing R.2.2.2.1 d6
  have rm := r_misses S p2 D d6
  -- the fold itself
  have main : pX9_doFold_b32 E g (B + 132) (nI ik) p h = pX9_doFold_b32 E g (B + 132) (nI ik) p h → (∃ h' hr' e, e ≤ t + 48 ∧ pX9_doFold_b32 E g (B + 132) (nI ik) p h = some (1, h') ∧ pX13_folds_b32 g (B + 187) (nI ik) (nI t) (nI (f 1)) hr = some hr' ∧ MS B q z g nb y h' hr' ∧ TC z h' (enF (foF F (f 1) n t) e) (up2 G 2 ik (nI e)) ∧ TR B y hr' (enF (foF F (f 1) n t) e) (up2 G 2 ik (nI e)) ∧ NFr B q z h h' ∧ MFr B hr hr' ∧ ∀ j, j = 3 ∨ j = 4 ∨ j = 5 → hI h' z j = hI h z j) := fun _ => by
    -- fold is by plus, top by the greatest
    have pr : ∃ cc cr : Int32, ((cc = 0 ∧ ¬ cr = 0) ∨ (¬ cc = 0 ∧ cr = 0)) ∧ (f 0 = 24 → cc = 1 ∧ cr = 0) ∧ (¬ f 0 = 24 → cc = 0 ∧ cr = 1) := by
      by_cases c : f 0 = 24
      · exact ⟨1, 0, Or.inr ⟨by decide, rfl⟩, fun _ => ⟨rfl, rfl⟩, fun w => absurd c w⟩
      · exact ⟨0, 1, Or.inl ⟨rfl, by decide⟩, fun w => absurd w c, fun _ => ⟨rfl, rfl⟩⟩
    obtain ⟨cc, cr, hcr, c24, n24⟩ := pr
    -- the reference's reads
    obtain ⟨hr1, r1, r2, r3⟩ := r_foldreads (Fin := fun x => pX13_folds_b97 g (B + 187) (nI ik) (nI t) (some (B + 193)) (nI (96 + f 4)) (B + 187) (nI (f 1)) (nI n) cr x) (f := f) (t := t) S p2 Ct hk hf hn v0 hF (by omega) (by omega) (fun x u fr => by
      have px : PtR B (hR x) := by rw [fr.1]; exact p2
      have vx : hI x (B + 192) 0 = nI n := by rw [(fr.2.1 (B + 192) (by omega) (by omega)).1]; exact v0
      obtain ⟨b0, -, -, -, -, b5, -⟩ := im_at S px hk (M.fr fr)
      rw [if_neg (show ¬ (f 0 = 3 ∨ f 0 = 4) by omega)] at b5
      have q23 : (nI (f 0) = 23) = (f 0 = 23) := q_k (j := 23) hf.1 (by decide)
      rw [pX13_folds_l35, pX13_folds_b35, w_lt, pr_187_19 px, w_nn, w_tg (st_192 S), sl_192 S, w_ixl (show 0 < 1476 by decide) (by decide), cl_l 0 (by decide), vx, if_pos (nI_le (Nat.le_refl n) (by omega)), w_lt, pr_187_20 px, b5, w_bd, w_lt, w_nn, w_tg (st_192 S), sl_192 S, w_ixl (show 0 < 1476 by decide) (by decide), b0, w_bd, vx, show (96 : Int32) + nI (f 4) = nI (96 + f 4) from nI_add 96 (f 4)]
      simp only [q23]
      by_cases c : f 0 = 23
      · rw [if_pos c, (n24 (by omega)).2]
      · rw [if_neg c, (c24 (by omega)).2])
    have D1 := r3.dm D
    have p21 : PtR B (hR hr1) := by rw [r3.1]; exact p2
    obtain ⟨h2, hr2, x, f1, f2, f3, f4, f5, f6, f7⟩ := fold_q (n := n) S Q R p21 D1 hcr d6 hn
    -- the class: the SCALAR
    have z4 : ∀ w, z ≤ w → w ≤ z + 6 → hI h2 w = hI h w := fun w w1 w2 => (f4.2 w (by omega) (by omega) (by omega) (by omega)).1
    have q4 : hI h2 q = hI h q := (f4.2 q (by omega) (by omega) (by omega) (by omega)).1
    have b4 : hI h2 (B + 132) = hI h (B + 132) := (f4.2 (B + 132) (by omega) (by omega) (by omega) (by omega)).1
    have i01 : is01 (hI h2 (B + 136) 1) := f3.1
    have sc2 : SC B h2 := ⟨i01, f6⟩
    have R2 : RunC B q z g h2 := R.keep f4.1 (f4.2 (B + 131) (by omega) (by omega) (by omega) (by omega)).2.2.1 sc2
    have I2 : IC op g h2 p f := I.keep (f4.2 p (by omega) (by omega) (by omega) (by omega)).1 (by rw [f4.1])
    have n2 : NFr B q z h h2 := ⟨f4.1, fun w _ _ c => by have e := f4.2 w (by omega) (by omega) (by omega) (by omega); exact ⟨e.1, e.2.1, e.2.2.1⟩, fun k _ => by rw [(f4.2 (B + 130) (by omega) (by omega) (by omega) (by omega)).1], fun k _ => by rw [(f4.2 (B + 130) (by omega) (by omega) (by omega) (by omega)).2.1], sc2, fun j _ => by rw [b4]⟩
    have D2 : DM B q h2 hr2 := by
      refine MacD.keep2 (hc := h) (cc := hI hr1 (B + 192)) (vv := hD hr1 (B + 193)) (fun j hj => ?_) (fun j _ _ => ?_) (fun j _ _ => ?_) D1
      · have e := f4.2 (q + j) (by omega) (by omega) (by omega) (by omega)
        exact ⟨e.1, e.2.2.1⟩
      · rw [(f5.2.1 (B + 192) (by omega) (by omega)).1]
      · rw [(f5.2.1 (B + 193) (by omega) (by omega)).2.2.1]
    have p22 : PtR B (hR hr2) := by rw [f5.1]; exact p21
    obtain ⟨h3, k1, k2, k3, k4, k5, k6⟩ := scal_both S p22 Q R2 D2 s4 f3
    have R3 := k3.run Q R2
    have C3 : TC z h3 F G := C.rw fun w w1 w2 => (k6 w w1 w2).trans (z4 w w1 w2)
    have I3 := k3.ic Q I2 hp
    have hv := hvN_le 16 n
    obtain ⟨h4, g1, g2, g3⟩ := t_fold (n := n) (m := hvN 16 n) R3.2.2.2.2.1 C3 I3 (ic_outz S Q I.1) hf hk hn hv hF (by omega) h8
    -- the reference: the SCALAR, its end
    have Ct2 : TR B y (sD hr2 (B + 193) (96 + f 4) x) (foF F (f 1) n t) G := TR.rw (h := hr1) (h1 := sD hr2 (B + 193) (96 + f 4) x) r2 (fun k hk => f5.2.2.1 k (by omega)) (fun w w1 w2 => (f5.2.1 w (by omega) (by omega)).1)
    have lef : ∀ a j, foF F (f 1) n t a j ≤ T := fun a j => foF_le hF (by omega) a j
    obtain ⟨hr4, m1, m2, m3⟩ := r_ends (h := sD hr2 (B + 193) (96 + f 4) x) (ik := ik) S p22 Ct2 (e := t + 3 * hvN 16 n) (T := T) hk (by omega) lef (by omega)
    have fm5 : MFr B hr1 hr2 := ⟨f5.1, fun w a c => f5.2.1 w a (by omega), fun k hk => f5.2.2.1 k (by omega), f5.2.2.2, fun i _ => by rw [(f5.2.1 (B + 192) (by omega) (by omega)).1], fun i _ => by rw [(f5.2.1 (B + 193) (by omega) (by omega)).2.2.1]⟩
    have fm6 : MFr B hr2 (sD hr2 (B + 193) (96 + f 4) x) := ⟨rfl, fun w a c => (Eqa.rf hr2 w).sD (by omega), fun _ _ => rfl, rfl, fun _ _ => rfl, fun i hi => by rw [hD_sD, if_pos rfl, ud_n (by omega)]⟩
    have h192 : hI hr4 (B + 192) = hI hr (B + 192) := by
      rw [(m3.2.1 (B + 192) (by omega) (by omega)).1]
      show hI hr2 (B + 192) = _
      rw [(f5.2.1 (B + 192) (by omega) (by omega)).1, (r3.2.1 (B + 192) (by omega) (by omega)).1]
    have h187 : ∀ k, k = 33 ∨ k = 37 ∨ k = 40 → hI hr4 (B + 187) k = hI hr (B + 187) k := fun k hk => by
      rw [m3.2.2.1 k (by omega) (by omega)]
      show hI hr2 (B + 187) k = _
      rw [f5.2.2.1 k (by omega), r3.2.2.1 k (by omega) (by omega)]
    refine ⟨h4, hr4, t + 3 * hvN 16 n, by omega, ?_, ?_, ⟨g3.run Q R3, ?_, m3.dm (g3.dm Q k2), ⟨?_, ?_⟩, ⟨?_, ?_⟩, ?_, ?_, ?_⟩, g2, m2, n2.tr (k3.nf.tr (g3.nf Q R3.2.2.2.2.2.2)), r3.m.tr (fm5.tr (fm6.tr m3.m)), fun j hj => ?_⟩
    · unfold pX9_doFold_b32
      rw [w_lt, R.2.1, w_nn, w_tg R.2.2.2.1.1, e5, w_lt, show (0 : Int32) = nI 0 from rfl, k_hv S 16 n FUEL 0 (by omega) hn (by unfold FUEL; omega), Nat.zero_add]
      have ra : pX3_rowAt g h q (nI (f 1)) = some (some (q + 2 + 3 * f 1)) := by
        obtain ⟨M1, M2, M3, M4, M5, -⟩ := R.2.2.2.1
        unfold pX3_rowAt
        rw [w_tg M1, w_lt, M2, if_neg (nI_pos (by omega)), if_neg (show ¬ 6 ≤ nI (f 1) from nI_ge (b := 6) d6 (by decide)), w_nn, w_tg M3, M4, w_ix d6 (by decide), w_lt, nI_clamp (by omega), (M5 _ d6).1]
      have b97 : pX9_doFold_b97 E g (B + 132) (nI ik) p (nI (hvN 16 n)) (B + 132) (some (q + 2 + 3 * f 1)) (nI n) cc h = some (1, h4) := by
        unfold pX9_doFold_b97
        rw [w_lt, w_tg (st_132 S), w_nn, pc_132_2 R.1, w_nn, f1, w_bd, w_lt, R2.2.1, w_nn, w_tg R2.2.2.2.1.1, w_lt, R2.2.2.2.1.2.2.2.2.2.2.2.2.1, w_tg I2.1, w_lt, pc_132_2 R2.1, w_nn, w_tg (scal_rowq R2.2.2.2.1).1, w_nn, I2.2.2 4 (by decide) (by decide), k1, w_bd, w_lt, w_lt, R3.2.1, w_nn, w_tg R3.2.2.2.1.1, R3.2.2.1, w_nn, w_tg R3.2.2.2.2.1.1, k5, q4, e5, g1, w_bd]
      unfold pX9_doFold_b43
      rw [if_pos (by decide), w_lt, R.2.1, w_tg I.1, w_nn, w_tg R.2.2.2.1.1, I.2.2 1 (by decide) (by decide), ra, w_bd, w_lt, w_nn, w_tg R.2.2.2.1.1, w_lt, e29, w_kR, I.2.1, e5]
      simp only [eq_op K hf28 (show 24 < 28 by decide)]
      by_cases c : f 0 = 24
      · rw [(c24 c).1] at b97
        rw [if_pos c]; exact b97
      · rw [(n24 c).1] at b97
        rw [if_neg c]; exact b97
    · rw [r1]
      show pX13_folds_b97 g (B + 187) (nI ik) (nI t) (some (B + 193)) (nI (96 + f 4)) (B + 187) (nI (f 1)) (nI n) cr hr1 = _
      unfold pX13_folds_b97
      rw [w_tg (st_187 S), f2, w_bd2, w_nn, w_tg (st_193 S), sl_193 S, w_ix (show 96 + f 4 < 984 by omega) (by decide), nI_clamp (by omega), w_lt]
      rw [show hI (sD hr2 (B + 193) (96 + f 4) x) (B + 187) 44 = nI (hvN 16 n) from f7, show (3 : Int32) = nI 3 from rfl, pk_mul, nI_add, m1, w_bd]
    · rw [m3.1]; exact p22
    · rw [(g3.2.1 q (by omega)).1, k5, q4]; exact e6
    · rw [(g3.2.1 q (by omega)).1, k5, q4]; exact e7
    · rw [h192]; exact v1
    · rw [h192]; exact v2
    · rw [h187 33 (by omega), g3.br Q, k4, b4]; exact eb
    · rw [h187 37 (by omega)]; exact tr0
    · rw [h187 40 (by omega)]; exact ov0
    · rw [g3.2.2 j hj, k6 z (Nat.le_refl z) (Nat.le_add_right z 6), z4 z (Nat.le_refl z) (Nat.le_add_right z 6)]
  -- no VL, or the row is there, or it is MISSING
  have dc : pX9_doFold E g h (B + 132) (nI ik) p = if n = 0 then pX9_doFold_b32 E g (B + 132) (nI ik) p h else if hI h (q + 20) (f 1) = 0 then some (0, trC z h 2 ik 0) else pX9_doFold_b32 E g (B + 132) (nI ik) p h := by
    unfold pX9_doFold
    rw [w_tg (st_132 S), w_lt, R.2.1, w_nn, w_tg R.2.2.2.1.1, e5]
    by_cases c : n = 0
    · rw [if_pos c, if_pos (by rw [c]; decide)]
    · rw [if_neg c, if_neg (nI_nle (by omega) (by omega)), w_lt, w_tg I.1, w_nn, w_tg R.2.2.2.1.1, I.2.2 1 (by decide) (by decide), ms, w_bd]
      simp only [b01, ite_not]
      by_cases e : hI h (q + 20) (f 1) = 0
      · rw [if_pos e, if_pos e, show pX9_trap g h (B + 132) 2 (nI ik) 0 = some (0, trC z h 2 ik 0) from k_trap S R 2 ik 0, w_bd2, w_bz is01_0]
      · rw [if_neg e, if_neg e]
  have dr : pX13_folds g hr (B + 187) (nI ik) (nI t) = if n = 0 then pX13_folds_b32 g (B + 187) (nI ik) (nI t) (nI (f 1)) hr else if hI h (q + 20) (f 1) = 0 then some (trR B hr 2 ik 0) else pX13_folds_b32 g (B + 187) (nI ik) (nI t) (nI (f 1)) hr := by
    unfold pX13_folds
    rw [w_tg (st_187 S), a1, w_bd, w_lt, pr_187_19 p2, w_nn, w_tg (st_192 S), sl_192 S, w_ixl (show 0 < 1476 by decide) (by decide), cl_l 0 (by decide), v0]
    by_cases c : n = 0
    · rw [if_pos c, if_pos (by rw [c]; decide)]
    · rw [if_neg c, if_neg (nI_nle (by omega) (by omega)), rm, w_bd]
      simp only [b01, ite_not]
      by_cases e : hI h (q + 20) (f 1) = 0
      · rw [if_pos e, if_pos e, show pX13_traps g hr (B + 187) 2 (nI ik) 0 = some (trR B hr 2 ik 0) from r_traps S 2 ik 0, w_bd]
      · rw [if_neg e, if_neg e]
  rw [dr]
  by_cases c : n = 0
  · left
    obtain ⟨h', hr', e, x0, x1, x2, x3⟩ := main rfl
    rw [if_pos c] at dc ⊢
    exact ⟨h', hr', e, x0, cl 1 h' is01_1 (dc.trans x1), x2, x3⟩
  · by_cases e : hI h (q + 20) (f 1) = 0
    · right
      rw [if_neg c, if_pos e] at dc ⊢
      refine ⟨_, _, cl 0 _ is01_0 dc, rfl, ?_, C.trap 2 ik 0, Ct.trap 2 ik 0, trap_f (by decide) (by decide) (by decide) h hr ik, trC_n Q R.2.2.2.2.2.2 2 ik 0, trR_m hr 2 ik 0⟩
      refine MacD.keep2 (hc := h) (cc := hI hr (B + 192)) (vv := hD hr (B + 193)) (fun j hj => ⟨?_, rfl⟩) (fun j _ _ => ?_) (fun _ _ _ => rfl) D
      · unfold trC
        rw [hI_sI, if_neg (by omega), hI_sI, if_neg (by omega), hI_sI, if_neg (by omega)]
      · rw [trR_o _ _ _ _ (by omega)]
    · left
      obtain ⟨h', hr', e', x0, x1, x2, x3⟩ := main rfl
      rw [if_neg c, if_neg e] at dc ⊢
      exact ⟨h', hr', e', x0, cl 1 h' is01_1 (dc.trans x1), x2, x3⟩
end FTB
