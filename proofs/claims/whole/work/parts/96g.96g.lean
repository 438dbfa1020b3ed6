/-! a run from its beginning to its end -/
section TPL
variable {B b L : Nat} {E : EC} {xs : Nat → Int32} {op st bt : Nat → Nat} {aL aS aO : Nat} {g : MT} {h h' h1 h2 hr hr' hr1 : CT} {q z p pp : Nat} {f : Nat → Nat} {π : Pg} {ik k n nb y t T : Nat} {F : Nat → Nat → Nat} {G G0 : Nat → Nat → Int32}
theorem stop_both (K : EOK E b L xs op st bt aL aS aO) (S : Sh B g) (Q : QZ B q z) (wf : WF π) (hk : k < π.1) {c : Nat} (hc : c < 10000) (X : RV B q z op g pp π nb y (300 * c) h hr F G) (O : OpenS B g h k) (h26 : π.2 k 0 = 26) (fO : CT → Nat → Int32 → Int32 → Option CT) :
    ∃ h' hr', (∀ fu, pX9_perform_l32 E g (B + 132) q z (fu + 2) (nI k) (nI c) h = some h') ∧ pX13_doOne g fO hr (B + 187) (nI k) = some hr' ∧ EN B q z y (300 * (c + 1)) h' hr' ∧ hI hr' (B + 187) 40 = 1 ∧ NFr B q z h h' ∧ MFr B hr hr' := by
  obtain ⟨i, n, h1, h14, w, F1, G1, b1, b2, b3, b4, b5, b6, b7, b8, b9, b10, b11⟩ := bare K S Q wf hk (c := c) hc X O (Or.inr h26) fO
  have hf := wf.fok hk
  have e37 : hI (sI h14 (B + 187) 40 1) (B + 187) 37 = 0 := by rw [hI_sI, if_pos rfl, ud_n (by decide)]; exact b8
  have e36 : hI (sI h14 (B + 187) 40 1) (B + 187) 36 = nI w := by rw [hI_sI, if_pos rfl, ud_n (by decide)]; exact b7
  rw [if_pos h26, w_lt, one_b152 S hf.1 (by omega) k, if_pos e37, e36, nI_1] at b6
  have e40 : ∀ x, hI (sI (sI h14 (B + 187) 40 1) (B + 187) 36 x) (B + 187) 40 = 1 := fun x => by rw [hI_sI, if_pos rfl, ud_n (by decide), hI_s]
  obtain ⟨Y1, Y2, Y3, Y4, Y5, Y6, Y7, Y8, Y9, Y10⟩ := b9
  have sw : ∀ k, k ≠ 40 → hI (sI (sI h14 (B + 187) 40 1) (B + 187) 36 (nI (w + 1))) (B + 187) k = hI (sI h14 (B + 187) 36 (nI (w + 1))) (B + 187) k := fun k hk => by
    rw [hI_sI, if_pos rfl, hI_sI, if_pos rfl, hI_sI, if_pos rfl]
    unfold ud
    by_cases c : k = 36
    · rw [if_pos c, if_pos c]
    · rw [if_neg c, if_neg c, if_neg hk]
  have so : ∀ x, x ≠ B + 187 → hI (sI (sI h14 (B + 187) 40 1) (B + 187) 36 (nI (w + 1))) x = hI (sI h14 (B + 187) 36 (nI (w + 1))) x := fun x hx => by
    rw [hI_sI, if_neg hx, hI_sI, if_neg hx, hI_sI, if_neg hx]
  have fm : MFr B hr (sI (sI h14 (B + 187) 40 1) (B + 187) 36 (nI (w + 1))) := b11.tr ⟨rfl, fun x hx _ => ⟨so x hx, rfl, rfl, rfl⟩, fun k hk => sw k (by omega), rfl, fun i _ => by rw [so _ (by omega)], fun _ _ => rfl⟩
  have DM' : DM B q h1 (sI (sI h14 (B + 187) 40 1) (B + 187) 36 (nI (w + 1))) := MacD.keep2 (hc := h1) (cc := hI (sI h14 (B + 187) 36 (nI (w + 1))) (B + 192)) (vv := hD h14 (B + 193)) (fun j hj => ⟨rfl, rfl⟩) (fun _ _ _ => by rw [so _ (by omega)]) (fun _ _ _ => rfl) Y1.2.2.1
  refine ⟨h1, _, fun fu => ?_, b6, ⟨F1, G1, DM', Y2, Y3.rw (fun k hk => sw k (by omega)) (fun x x1 x2 => so x (by omega)), Y4, Y6, b10.2.2.2.2.1, Or.inl ⟨Y9, (sw 37 (by decide)).trans Y1.2.2.2.2.2.2.1⟩⟩, e40 _, b10, fm⟩
  rw [show fu + 2 = (fu + 1) + 1 from rfl, b5 (fu + 1), k_behind K S b4 hf.1, if_neg (by omega), if_pos h26, w_bd2, pf_over]
theorem topl (K : EOK E b L xs op st bt aL aS aO) (S : Sh B g) (Q : QZ B q z) (wf : WF π) (nb1 : 1 ≤ nb) (nb2 : nb ≤ 16) (y1 : 1 ≤ y) (y2 : y ≤ 12) {fO fO' : CT → Nat → Int32 → Int32 → Option CT} (hfO : ∀ h a b, fO h (B + 187) a b = pX13_doAll_o_l2 g fO' (B + 187) a b FUEL a h) (p1 : Int32) :
    ∀ (M d k c : Nat) (h hr : CT) (F : Nat → Nat → Nat) (G : Nat → Nat → Int32), d ≤ M → k + d = π.1 → c + 14 * d ≤ 4000 → RV B q z op g pp π nb y (300 * c) h hr F G → hR h (B + 132) 6 = none → hI h (B + 132) 9 = 0 →
    ∃ h' hr', (∀ fu, 14 * d + 2 ≤ fu → pX9_perform_l32 E g (B + 132) q z fu (nI k) (nI c) h = some h') ∧ (∀ fu, d < fu → pX13_doAll_o_l2 g fO (B + 187) p1 (nI π.1) fu (nI k) hr = some hr') ∧ EN B q z y (300 * (c + 14 * d)) h' hr' ∧ WFr B q z h h' ∧ MFr B hr hr' := by
  have h30 := wf.1
  intro M
  induction M with
  | zero =>
    intro d k c h hr F G hd hk hc X o1 o9
    obtain rfl : d = 0 := by omega
    obtain rfl : k = π.1 := by omega
    obtain ⟨XM, C, Ct, hF, hJ, hG, PC, PM, tz, epp⟩ := X
    have R := XM.1
    refine ⟨h, hr, fun fu hfu => ?_, fun fu hfu => ?_, ⟨F, G, XM.2.2.1, C, Ct, hF, hG, R.2.2.2.2.2.2, Or.inl ⟨tz, XM.2.2.2.2.2.2.1⟩⟩, WFr.rf R.2.2.2.2.2.2, MFr.rf B hr⟩
    · obtain ⟨fu, rfl⟩ : ∃ w, fu = w + 2 := ⟨fu - 2, by omega⟩
      rw [show fu + 2 = (fu + 1) + 1 from rfl, pX9_perform_l32, pX9_perform_b32, if_neg (show ¬ (1000000 : Int32) ≤ nI c from nI_ge (b := 1000000) (by omega) (by decide)), if_neg (show ¬ nI π.1 = -1 from fun w => by
        have := congrArg Int32.toInt w
        rw [nI_toInt (by omega), show (-1 : Int32).toInt = -1 from rfl] at this
        omega), w_lt, R.2.1, w_nn, w_tg R.2.2.2.1.1, w_lt, epp, w_nn, w_tg PC.1, k_atN PC h30 (Nat.le_refl _) (by omega), w_bd, w_lt, if_pos o1]
      unfold pX9_perform_b83 pX9_perform_b180
      rw [if_pos rfl, w_lt, pf_over]
    · obtain ⟨fu, rfl⟩ : ∃ w, fu = w + 1 := ⟨fu - 1, by omega⟩
      rw [pX13_doAll_o_l2, pX13_doAll_o_b2, if_pos (nI_le (Nat.le_refl _) (by omega))]
  | succ M ih =>
    intro d k c h hr F G hd hk hc X o1 o9
    by_cases d0 : d = 0
    · subst d0
      exact ih 0 k c h hr F G (Nat.zero_le _) hk hc X o1 o9
    have hkp : k < π.1 := by omega
    have O : OpenS B g h k := Or.inl o1
    have ov := X.1.2.2.2.2.2.2.2
    have hf := wf.fok hkp
    have q25 : (nI (π.2 k 0) = 25) = (π.2 k 0 = 25) := q_k (j := 25) hf.1 (by decide)
    have l2s : ∀ hr1, MFr B hr hr1 → pX13_doOne g fO hr (B + 187) (nI k) = some hr1 → ∀ fu, pX13_doAll_o_l2 g fO (B + 187) p1 (nI π.1) (fu + 1) (nI k) hr = pX13_doAll_o_l2 g fO (B + 187) p1 (nI π.1) fu (nI (if π.2 k 0 = 25 then π.2 k 9 else k + 1)) hr1 := fun hr1 fm e1 fu => by
      have p21 : PtR B (hR hr1) := by rw [fm.1]; exact X.1.2.1
      have PM1 := fm.pg h30 X.2.2.2.2.2.2.2.1
      have at7 := (im_at S p21 (show k < 30 by omega) (PM1.im hkp)).2.2.2.2.2.2.2
      rw [pX13_doAll_o_l2, pX13_doAll_o_b2, if_neg (nI_ge hkp (by omega)), if_pos ov, e1, w_bd, at_kind S wf p21 PM1 hkp, w_bd]
      simp only [q25]
      unfold pX13_doAll_o_b43
      by_cases c25 : π.2 k 0 = 25
      · rw [if_pos c25, if_pos c25, at7 c25, w_bd]
      · rw [if_neg c25, if_neg c25, nI_1]
    have over : ∀ hr1 j, hI hr1 (B + 187) 40 = 1 → ∀ fu, pX13_doAll_o_l2 g fO (B + 187) p1 (nI π.1) (fu + 1) (nI j) hr1 = some hr1 := fun hr1 j e1 fu => by
      rw [pX13_doAll_o_l2, pX13_doAll_o_b2, e1]
      by_cases w : nI π.1 ≤ nI j
      · rw [if_pos w]
      · rw [if_neg w, if_neg (by decide)]
    by_cases c25 : π.2 k 0 = 25
    · obtain ⟨ke, ee, eno⟩ := (wf.2 k hkp).2.2.2.2.2.2.2.2.2.2.2 c25
      rcases strip_all K S Q wf nb1 nb2 y1 y2 hfO hkp c25 (c := c) (by omega) X o1 o9 with ⟨h1, hr1, F1, G1, c', g1, g2, g3, g4, g5, g6, g7, g8⟩ | ⟨h1, hr1, g1, g2, g3, g4, g5, g6⟩
      · obtain ⟨h', hr', u1, u2, u3, u4, u5⟩ := ih (π.1 - π.2 k 9) (π.2 k 9) c' h1 hr1 F1 G1 (by omega) (by omega) (by omega) g5 g6.1 g6.2
        refine ⟨h', hr', fun fu hfu => ?_, fun fu hfu => ?_, u3.mono (by omega), g7.tr u4, g8.tr u5⟩
        · rw [show fu = (fu - (c' - c)) + (c' - c) by omega, g3]
          exact u1 _ (by omega)
        · obtain ⟨fu, rfl⟩ : ∃ w, fu = w + 1 := ⟨fu - 1, by omega⟩
          rw [l2s hr1 g8 g4 fu, if_pos c25]
          exact u2 fu (by omega)
      · refine ⟨h1, hr1, fun fu hfu => ?_, fun fu hfu => ?_, g3.mono (by omega), g5, g6⟩
        · have := g1 (fu - (1 + 13 * (π.2 k 9 - k) + 2))
          rw [show fu - (1 + 13 * (π.2 k 9 - k) + 2) + 1 + 13 * (π.2 k 9 - k) + 2 = fu by omega] at this
          exact this
        · obtain ⟨fu, rfl⟩ : ∃ w, fu = w + 2 := ⟨fu - 2, by omega⟩
          rw [show fu + 2 = (fu + 1) + 1 from rfl, l2s hr1 g6 g2 (fu + 1), over hr1 _ g4 fu]
    · by_cases c26 : π.2 k 0 = 26
      · obtain ⟨h1, hr1, s1, s2, s3, s4, s5, s6⟩ := stop_both K S Q wf hkp (c := c) (by omega) X O c26 fO
        refine ⟨h1, hr1, fun fu hfu => ?_, fun fu hfu => ?_, s3.mono (by omega), s5.w, s6⟩
        · rw [show fu = (fu - 2) + 2 by omega]
          exact s1 _
        · obtain ⟨fu, rfl⟩ : ∃ w, fu = w + 2 := ⟨fu - 2, by omega⟩
          rw [show fu + 2 = (fu + 1) + 1 from rfl, l2s hr1 s6 s2 (fu + 1), over hr1 _ s4 fu]
      · rcases pf_step K S Q wf hkp nb1 nb2 y1 y2 (c := c) (by omega) X O c25 c26 fO with ⟨h1, hr1, F1, G1, s1, s2, s3, s4, s5⟩ | ⟨h1, hr1, s1, s2, s3, s4, s5, s6⟩
        · obtain ⟨h', hr', u1, u2, u3, u4, u5⟩ := ih (d - 1) (k + 1) (c + 1) h1 hr1 F1 G1 (by omega) (by omega) (by omega) s3 (by rw [s4.1]; exact o1) (by rw [s4.2.2.2.2.2 9 (by decide)]; exact o9)
          refine ⟨h', hr', fun fu hfu => ?_, fun fu hfu => ?_, u3.mono (by omega), s4.w.tr u4, s5.tr u5⟩
          · rw [show fu = (fu - 1) + 1 by omega, s1]
            exact u1 _ (by omega)
          · obtain ⟨fu, rfl⟩ : ∃ w, fu = w + 1 := ⟨fu - 1, by omega⟩
            rw [l2s hr1 s5 s2 fu, if_neg c25]
            exact u2 fu (by omega)
        · refine ⟨h1, hr1, fun fu hfu => ?_, fun fu hfu => ?_, s3.mono (by omega), s5.w, s6⟩
          · rw [show fu = (fu - 2) + 2 by omega]
            exact s1 _
          · obtain ⟨fu, rfl⟩ : ∃ w, fu = w + 2 := ⟨fu - 2, by omega⟩
            rw [show fu + 2 = (fu + 1) + 1 from rfl, l2s hr1 s6 s2 (fu + 1), over hr1 _ s4 fu]
end TPL
