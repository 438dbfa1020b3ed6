/-! a strip, all of it; all of a run -/
section TOP
variable {B b L : Nat} {E : EC} {xs : Nat → Int32} {op st bt : Nat → Nat} {aL aS aO : Nat} {g : MT} {h h' h1 h2 hr hr' hr1 : CT} {q z p pp : Nat} {f : Nat → Nat} {π : Pg} {ik k n nb y t T : Nat} {F : Nat → Nat → Nat} {G G0 : Nat → Nat → Int32}
theorem strip_all (K : EOK E b L xs op st bt aL aS aO) (S : Sh B g) (Q : QZ B q z) (wf : WF π) (nb1 : 1 ≤ nb) (nb2 : nb ≤ 16) (y1 : 1 ≤ y) (y2 : y ≤ 12) {fO fO' : CT → Nat → Int32 → Int32 → Option CT} (hfO : ∀ h a b, fO h (B + 187) a b = pX13_doAll_o_l2 g fO' (B + 187) a b FUEL a h) (hk : k < π.1) (h25 : π.2 k 0 = 25) {c : Nat} (hc : c < 8000) (X : RV B q z op g pp π nb y (300 * c) h hr F G) (o1 : hR h (B + 132) 6 = none) (o9 : hI h (B + 132) 9 = 0) :
    (∃ h' hr' F' G' c', c < c' ∧ c' ≤ c + 1 + 13 * (π.2 k 9 - k) ∧ (∀ fu, pX9_perform_l32 E g (B + 132) q z (fu + (c' - c)) (nI k) (nI c) h = pX9_perform_l32 E g (B + 132) q z fu (nI (π.2 k 9)) (nI c') h') ∧ pX13_doOne g fO hr (B + 187) (nI k) = some hr' ∧ RV B q z op g pp π nb y (300 * c') h' hr' F' G' ∧ (hR h' (B + 132) 6 = none ∧ hI h' (B + 132) 9 = 0) ∧ WFr B q z h h' ∧ MFr B hr hr')
    ∨ ∃ h' hr', (∀ fu, pX9_perform_l32 E g (B + 132) q z (fu + 1 + 13 * (π.2 k 9 - k) + 2) (nI k) (nI c) h = some h') ∧ pX13_doOne g fO hr (B + 187) (nI k) = some hr' ∧ EN B q z y (300 * (c + 1 + 13 * (π.2 k 9 - k))) h' hr' ∧ hI hr' (B + 187) 40 = 1 ∧ WFr B q z h h' ∧ MFr B hr hr' := by
  have h30 := wf.1
  have hf := wf.fok hk
  have hN : π.2 k 7 ≤ 200 := hf.2.2.2.2.2.2.2.1
  obtain ⟨ke, ee, eno⟩ := (wf.2 k hk).2.2.2.2.2.2.2.2.2.2.2 h25
  obtain ⟨i, n, h1, h14, w, F1, G1, b1, b2, b3, b4, b5, b6, b7, b8, b9, b10, b11⟩ := bare K S Q wf hk (c := c) (by omega) X (Or.inl o1) (Or.inl h25) fO
  have e9 := b4.2.2 9 (by decide) (by decide)
  have e7 := b4.2.2 7 (by decide) (by decide)
  have q25 : (nI (π.2 k 0) = 25) = (π.2 k 0 = 25) := q_k (j := 25) hf.1 (by decide)
  have o1' : hR h1 (B + 132) 6 = none := by rw [b10.1]; exact o1
  have o9' : hI h1 (B + 132) 9 = 0 := by rw [b10.2.2.2.2.2 9 (by decide)]; exact o9
  -- the reference comes to its rounds
  rw [if_neg (by omega)] at b6
  unfold pX13_doOne_b152 pX13_doOne_b169 at b6
  rw [if_pos b8, b7, nI_1, w_lt] at b6
  simp only [q25] at b6
  rw [if_pos h25] at b6
  generalize sI h14 (B + 187) 36 (nI (w + 1)) = H at *
  have p2 : PtR B (hR H) := b9.1.2.1
  -- VL as it is
  have vlH : ∃ m, m ≤ 16 ∧ hI h1 q 5 = nI m ∧ hI H (B + 192) 0 = nI m := by
    obtain ⟨⟨m, m1, m2, m3⟩, -⟩ := b9.1.2.2.1
    exact ⟨m, m1, m2, m3⟩
  obtain ⟨was, was1, was2, was3⟩ := vlH
  have a4 := (im_at S p2 (show k < 30 by omega) (b9.2.2.2.2.2.2.2.1.im hk)).2.2.2.2.1
  rw [if_pos (Or.inr h25)] at a4
  have ms33 : MFr B H (sI H (B + 187) 33 0) := ⟨rfl, fun x hx _ => (Eqa.rf H x).sI hx, fun k hk => by rw [hI_sI, if_pos rfl, ud_n (by omega)], rfl, fun i _ => by rw [hI_sI, if_neg (by omega)], fun _ _ => rfl⟩
  have st : pX13_strips g fO H (B + 187) (nI k) = pX13_strips_l19 g fO (B + 187) (nI k) FUEL (nI was) (nI (π.2 k 7)) (sI H (B + 187) 33 0) := by
    unfold pX13_strips
    rw [w_tg (st_187 S), w_lt, pr_187_19 p2, w_nn, w_tg (st_192 S), sl_192 S, w_ixl (show 0 < 1476 by decide) (by decide), cl_l 0 (by decide), was3, w_lt, a4, w_bd, w_lt]
  rw [st] at b6
  have kb : ∀ fu, pX9_perform_l32 E g (B + 132) q z (fu + 1) (nI k) (nI c) h = bd2 (pX9_beginStrip g h1 (B + 132) (nI k) i) fun x6 h4 => pX9_perform_l32 E g (B + 132) q z fu x6 (nI (c + 1)) h4 := fun fu => by
    rw [b5 fu, k_behind K S b4 hf.1, if_pos h25]
    cases pX9_beginStrip g h1 (B + 132) (nI k) i with
    | none => rfl
    | some r => rfl
  by_cases n0 : π.2 k 7 = 0
  · -- nothing is done
    left
    have bs : pX9_beginStrip g h1 (B + 132) (nI k) i = some (nI (π.2 k 9), h1) := by
      unfold pX9_beginStrip
      rw [w_tg (st_132 S), w_tg b4.1, e7, n0, if_pos (show nI 0 = 0 from rfl), e9, nI_1, max_nI (by omega) (by omega), show max (π.2 k 9) (k + 1) = π.2 k 9 by omega]
    obtain ⟨Y1, Y2, Y3⟩ := RV.upd (h' := h1) (hr' := sI (sI (sI H (B + 187) 33 0) (B + 192) 0 (nI was)) (B + 187) 33 0) S Q h30 b9 was1 (fun _ _ _ => rfl) (fun w _ => by rw [sI_id was2]) rfl rfl rfl (fun w hw => by
      rw [hI_sI, if_neg hw]
      exact sI_sub (by rw [hI_sI, if_neg hw])) rfl rfl (fun k hk => by rw [hI_sI, if_pos rfl, ud_n hk, hI_sI, if_neg (by omega), hI_sI, if_pos rfl, ud_n hk]) (by rw [hI_s, o9'])
    refine ⟨h1, _, F1, G1, c + 1, by omega, by omega, fun fu => ?_, ?_, Y1, ⟨o1', o9'⟩, b10.w.tr Y2, b11.tr Y3⟩
    · rw [show fu + (c + 1 - c) = fu + 1 by omega, kb fu, bs, w_bd2]
    · rw [b6, n0, show FUEL = 4999 + 1 from rfl, pX13_strips_l19, pX13_strips_b19, if_pos (show nI 0 ≤ 0 by decide)]
      unfold pX13_strips_b98
      have p23 : PtR B (hR (sI H (B + 187) 33 0)) := p2
      rw [w_lt, pr_187_19 p23, w_nn, w_tg (st_192 S), sl_192 S, w_ixl (show 0 < 1476 by decide) (by decide), cl_l 0 (by decide), w_lt, w_lt, w_bd]
  · have R1 := b9.1.1
    have bs : pX9_beginStrip g h1 (B + 132) (nI k) i = some (nI (k + 1), sI (sI (sI (sI (sR h1 (B + 132) 6 (some i)) (B + 132) 7 (nI k)) (B + 132) 8 (nI was)) (B + 132) 9 0) q 5 (nI (min 16 (π.2 k 7)))) := by
      obtain ⟨p1, p2', p3⟩ := prog_out S Q (Or.inl b4.1)
      have c4 : ∀ x : CT, hR x = hR (sR h1 (B + 132) 6 (some i)) → hR x (B + 132) 4 = some q := fun x hx => by rw [hx, hR_sR, if_pos rfl, ud_n (by decide)]; exact R1.2.1
      unfold pX9_beginStrip
      rw [w_tg (st_132 S), w_tg b4.1, e7, if_neg (nI_ne0 (by omega) (by omega)), w_lt, w_lt, w_lt, c4 (sI (sR h1 (B + 132) 6 (some i)) (B + 132) 7 (nI k)) rfl, w_nn, w_tg R1.2.2.2.1.1, hI_sI, if_neg (by omega), hI_sR, was2, w_lt, w_lt, w_lt, c4 (sI (sI (sI (sR h1 (B + 132) 6 (some i)) (B + 132) 7 (nI k)) (B + 132) 8 (nI was)) (B + 132) 9 0) rfl, w_nn, w_tg R1.2.2.2.1.1, hI_sI, if_neg (by omega), hI_sI, if_neg (by omega), hI_sI, if_neg (by omega), hI_sR, e7, min16 (by omega), w_lt, nI_1]
    obtain ⟨Y1, Y2, Y3⟩ := RV.upd (h' := sI (sI (sI (sI (sR h1 (B + 132) 6 (some i)) (B + 132) 7 (nI k)) (B + 132) 8 (nI was)) (B + 132) 9 0) q 5 (nI (min 16 (π.2 k 7)))) (hr' := sI (sI H (B + 187) 33 0) (B + 192) 0 (nI (min 16 (π.2 k 7)))) S Q h30 b9 (v := min 16 (π.2 k 7)) (Nat.min_le_left _ _) (fun x k hxk => by
      show hR (sR h1 (B + 132) 6 (some i)) x k = hR h1 x k
      rw [hR_sR]
      by_cases cx : x = B + 132
      · rw [if_pos cx, ud_n (fun w => hxk ⟨cx, w⟩), cx]
      · rw [if_neg cx]) (fun w hw => sI_sub (by rw [hI_sI, if_neg hw, hI_sI, if_neg hw, hI_sI, if_neg hw, hI_sR])) rfl rfl rfl (fun w hw => sI_sub (by rw [hI_sI, if_neg hw])) rfl rfl (fun k hk => by rw [hI_sI, if_neg (by omega), hI_sI, if_pos rfl, ud_n hk]) (by rw [hI_sI, if_neg (by omega), hI_s, hI_sI, if_neg (by omega), hI_s])
    have b1' : hR h1 (pp + 1) k = some i := by rw [b10.1]; exact b1
    have pq : pp + 1 ≠ B + 132 := by
      have := prog_out S Q (Or.inr (Or.inr b9.2.2.2.2.2.2.1.2.2.1))
      omega
    have f132 : ∀ j, hI (sI (sI (sI (sI (sR h1 (B + 132) 6 (some i)) (B + 132) 7 (nI k)) (B + 132) 8 (nI was)) (B + 132) 9 0) q 5 (nI (min 16 (π.2 k 7)))) (B + 132) j = hI (sI (sI (sI (sR h1 (B + 132) 6 (some i)) (B + 132) 7 (nI k)) (B + 132) 8 (nI was)) (B + 132) 9 0) (B + 132) j := fun j => by rw [hI_sI, if_neg (by omega)]
    have ov : hI (sI H (B + 187) 33 0) (B + 187) 40 = 0 := by rw [hI_sI, if_pos rfl, ud_n (by decide)]; exact b9.1.2.2.2.2.2.2.2
    have z0 : π.2 k 7 - 16 * 0 = π.2 k 7 := by omega
    have Z := rounds (i := i) K S Q wf nb1 nb2 y1 y2 hfO hk h25 was1 13 0 (c + 1) _ (sI H (B + 187) 33 0) F1 G1 (by omega) (by omega) (by omega) (by rw [z0]; exact Y1) ov (by
      show hR (sR h1 (B + 132) 6 (some i)) (pp + 1) k = some i
      rw [hR_sR, if_neg pq]; exact b1') (by
      show hR (sR h1 (B + 132) 6 (some i)) (B + 132) 6 = some i
      rw [hR_sR, if_pos rfl, ud_s]) (by rw [f132, hI_sI, if_pos rfl, ud_n (by decide), hI_sI, if_pos rfl, ud_n (by decide), hI_s]) (by rw [f132, hI_sI, if_pos rfl, ud_n (by decide), hI_s]) (by rw [f132, hI_s]; rfl)
    rw [z0] at Z
    rcases Z with ⟨h', hr', F', G', c', g1, g2, g3, g4, g5, g6, g7, g8⟩ | ⟨h', hr', g1, g2, g3, g4, g5, g6⟩
    · refine Or.inl ⟨h', hr', F', G', c', by omega, by omega, fun fu => ?_, ?_, g5, g6, b10.w.tr (Y2.tr g7), b11.tr (ms33.tr g8)⟩
      · rw [show fu + (c' - c) = (fu + (c' - (c + 1))) + 1 by omega, kb, bs, w_bd2, g3 fu]
      · rw [b6, g4 FUEL (by unfold FUEL; omega), w_bd]
    · refine Or.inr ⟨h', hr', fun fu => ?_, ?_, g3.mono (by omega), g4, b10.w.tr (Y2.tr g5), b11.tr (ms33.tr g6)⟩
      · rw [show fu + 1 + 13 * (π.2 k 9 - k) + 2 = (fu + 13 * (π.2 k 9 - k) + 2) + 1 by omega, kb, bs, w_bd2, g1 fu]
      · rw [b6, g2 FUEL (by unfold FUEL; omega), w_bd]
end TOP
