/-! what stands within a strip; a round of one -/
section RND
variable {B b L : Nat} {E : EC} {xs : Nat → Int32} {op st bt : Nat → Nat} {aL aS aO : Nat} {g : MT} {h h' h1 h2 hr hr' hr1 : CT} {q z p pp : Nat} {f : Nat → Nat} {π : Pg} {ik k n nb y t T : Nat} {F : Nat → Nat → Nat} {G G0 : Nat → Nat → Int32} {fO : CT → Nat → Int32 → Int32 → Option CT}
theorem at_kind (S : Sh B g) (wf : WF π) (p2 : PtR B (hR hr)) (PM : PgM (hI hr (B + 192)) 0 π) {j : Nat} (hj : j < π.1) : pX13_at g hr (B + 187) (nI j) 0 = some (nI (π.2 j 0)) := (im_at S p2 (by have := wf.1; omega) (PM.im hj)).1
/-- the INSTRUCTIONS of a strip, once -/
theorem inner (K : EOK E b L xs op st bt aL aS aO) (S : Sh B g) (Q : QZ B q z) (wf : WF π) (nb1 : 1 ≤ nb) (nb2 : nb ≤ 16) (y1 : 1 ≤ y) (y2 : y ≤ 12) (fO : CT → Nat → Int32 → Int32 → Option CT) (p1 : Int32) {k e s : Nat} (he : e ≤ π.1) (hin : ∀ j, k < j → j < e → π.2 j 0 ≠ 25 ∧ π.2 j 0 ≠ 26 ∨ π.2 j 0 = 26) (ts : gT g s = 2) :
    ∀ (d j c : Nat) (h hr : CT) (F : Nat → Nat → Nat) (G : Nat → Nat → Int32), j + d = e → k < j → c + d < 10000 → RV B q z op g pp π nb y (300 * c) h hr F G → hR h (B + 132) 6 = some s → hI h s 9 = nI e →
    (∃ h' hr' F' G', (∀ fu, pX9_perform_l32 E g (B + 132) q z (fu + d) (nI j) (nI c) h = pX9_perform_l32 E g (B + 132) q z fu (nI e) (nI (c + d)) h') ∧ (∀ fu, d < fu → pX13_doAll_o_l2 g fO (B + 187) p1 (nI e) fu (nI j) hr = some hr') ∧ RV B q z op g pp π nb y (300 * (c + d)) h' hr' F' G' ∧ NFr B q z h h' ∧ MFr B hr hr')
    ∨ ∃ h' hr', (∀ fu, pX9_perform_l32 E g (B + 132) q z (fu + d + 2) (nI j) (nI c) h = some h') ∧ (∀ fu, d < fu → pX13_doAll_o_l2 g fO (B + 187) p1 (nI e) fu (nI j) hr = some hr') ∧ EN B q z y (300 * (c + d)) h' hr' ∧ hI hr' (B + 187) 40 = 1 ∧ NFr B q z h h' ∧ MFr B hr hr' := by
  have h30 := wf.1
  intro d
  induction d with
  | zero =>
    intro j c h hr F G hj hk hc X o1 o2
    obtain rfl : j = e := by omega
    refine Or.inl ⟨h, hr, F, G, fun fu => rfl, fun fu hfu => ?_, X, NFr.rf X.1.1.2.2.2.2.2.2, MFr.rf B hr⟩
    obtain ⟨fu, rfl⟩ : ∃ w, fu = w + 1 := ⟨fu - 1, by omega⟩
    rw [pX13_doAll_o_l2, pX13_doAll_o_b2, if_pos (nI_le (Nat.le_refl j) (by omega))]
  | succ d ih =>
    intro j c h hr F G hj hk hc X o1 o2
    have hjp : j < π.1 := by omega
    have O : OpenS B g h j := Or.inr ⟨s, e, o1, ts, o2, by omega, by omega⟩
    have ov := X.1.2.2.2.2.2.2.2
    have l2s : ∀ fu, pX13_doAll_o_l2 g fO (B + 187) p1 (nI e) (fu + 1) (nI j) hr = bd (pX13_doOne g fO hr (B + 187) (nI j)) fun h3 => (bd (pX13_at g h3 (B + 187) (nI j) 0) fun x5 => (if x5 = 25 then bd (pX13_at g h3 (B + 187) (nI j) 7) fun x8 => (pX13_doAll_o_l2 g fO (B + 187) p1 (nI e) fu x8 h3) else pX13_doAll_o_l2 g fO (B + 187) p1 (nI e) fu (nI (j + 1)) h3)) := fun fu => by
      rw [pX13_doAll_o_l2, pX13_doAll_o_b2, if_neg (nI_ge (show j < e by omega) (by omega)), if_pos ov, nI_1]
      rfl
    have tail : ∀ hr1, MFr B hr hr1 → pX13_doOne g fO hr (B + 187) (nI j) = some hr1 → ∀ fu, pX13_doAll_o_l2 g fO (B + 187) p1 (nI e) (fu + 1) (nI j) hr = pX13_doAll_o_l2 g fO (B + 187) p1 (nI e) fu (nI (j + 1)) hr1 := fun hr1 fm e1 fu => by
      have p21 : PtR B (hR hr1) := by rw [fm.1]; exact X.1.2.1
      have PM1 := fm.pg h30 X.2.2.2.2.2.2.2.1
      have h25 : π.2 j 0 ≠ 25 := by rcases hin j hk (by omega) with w | w <;> omega
      have q25 : (nI (π.2 j 0) = 25) = (π.2 j 0 = 25) := q_k (j := 25) (wf.fok hjp).1 (by decide)
      rw [l2s fu, e1, w_bd, at_kind S wf p21 PM1 hjp, w_bd]
      simp only [q25]
      rw [if_neg h25]
    have over : ∀ hr1, hI hr1 (B + 187) 40 = 1 → ∀ fu, pX13_doAll_o_l2 g fO (B + 187) p1 (nI e) (fu + 1) (nI (j + 1)) hr1 = some hr1 := fun hr1 e1 fu => by
      rw [pX13_doAll_o_l2, pX13_doAll_o_b2, e1]
      by_cases w : nI e ≤ nI (j + 1)
      · rw [if_pos w]
      · rw [if_neg w, if_neg (by decide)]
    rcases hin j hk (by omega) with ⟨h25, h26⟩ | h26
    · rcases pf_step K S Q wf hjp nb1 nb2 y1 y2 (c := c) (by omega) X O h25 h26 fO with ⟨h1, hr1, F1, G1, s1, s2, s3, s4, s5⟩ | ⟨h1, hr1, s1, s2, s3, s4, s5, s6⟩
      · obtain ⟨a1, a2, a3⟩ := prog_out S Q (Or.inl ts)
        have o1' : hR h1 (B + 132) 6 = some s := by rw [s4.1]; exact o1
        have o2' : hI h1 s 9 = nI e := by rw [(s4.2.1 s a1 a2 (by omega)).1]; exact o2
        rcases ih (j + 1) (c + 1) h1 hr1 F1 G1 (by omega) (by omega) (by omega) s3 o1' o2' with ⟨h', hr', F', G', u1, u2, u3, u4, u5⟩ | ⟨h', hr', u1, u2, u3, u4, u5, u6⟩
        · refine Or.inl ⟨h', hr', F', G', fun fu => ?_, fun fu hfu => ?_, by rw [show c + (d + 1) = c + 1 + d by omega]; exact u3, s4.tr u4, s5.tr u5⟩
          · rw [← Nat.add_assoc, s1 (fu + d), u1 fu, show c + 1 + d = c + (d + 1) by omega]
          · obtain ⟨fu, rfl⟩ : ∃ w, fu = w + 1 := ⟨fu - 1, by omega⟩
            rw [tail hr1 s5 s2 fu]
            exact u2 fu (by omega)
        · refine Or.inr ⟨h', hr', fun fu => ?_, fun fu hfu => ?_, by rw [show c + (d + 1) = c + 1 + d by omega]; exact u3, u4, s4.tr u5, s5.tr u6⟩
          · rw [show fu + (d + 1) + 2 = fu + d + 2 + 1 by omega, s1 (fu + d + 2), u1 fu]
          · obtain ⟨fu, rfl⟩ : ∃ w, fu = w + 1 := ⟨fu - 1, by omega⟩
            rw [tail hr1 s5 s2 fu]
            exact u2 fu (by omega)
      · refine Or.inr ⟨h1, hr1, fun fu => ?_, fun fu hfu => ?_, s3.mono (by omega), s4, s5, s6⟩
        · rw [show fu + (d + 1) + 2 = (fu + (d + 1)) + 2 from rfl]
          exact s1 (fu + (d + 1))
        · obtain ⟨fu, rfl⟩ : ∃ w, fu = w + 2 := ⟨fu - 2, by omega⟩
          rw [show fu + 2 = (fu + 1) + 1 from rfl, tail hr1 s6 s2 (fu + 1), over hr1 s4 fu]
    · -- stop
      obtain ⟨i, n, h1, h14, w, F1, G1, b1, b2, b3, b4, b5, b6, b7, b8, b9, b10, b11⟩ := bare K S Q wf hjp (c := c) (by omega) X O (Or.inr h26) fO
      have hf := wf.fok hjp
      have e37 : hI (sI h14 (B + 187) 40 1) (B + 187) 37 = 0 := by rw [hI_sI, if_pos rfl, ud_n (by decide)]; exact b8
      have e36 : hI (sI h14 (B + 187) 40 1) (B + 187) 36 = nI w := by rw [hI_sI, if_pos rfl, ud_n (by decide)]; exact b7
      rw [if_pos h26, w_lt, one_b152 S hf.1 (by omega) j, if_pos e37, e36, nI_1] at b6
      have e40 : ∀ x, hI (sI (sI h14 (B + 187) 40 1) (B + 187) 36 x) (B + 187) 40 = 1 := fun x => by rw [hI_sI, if_pos rfl, ud_n (by decide), hI_s]
      obtain ⟨Y1, Y2, Y3, Y4, Y5, Y6, Y7, Y8, Y9, Y10⟩ := b9
      have sw : ∀ k, k ≠ 40 → hI (sI (sI h14 (B + 187) 40 1) (B + 187) 36 (nI (w + 1))) (B + 187) k = hI (sI h14 (B + 187) 36 (nI (w + 1))) (B + 187) k := fun k hk => by
        rw [hI_sI, if_pos rfl, hI_sI, if_pos rfl, hI_sI, if_pos rfl]
        unfold ud
        by_cases c : k = 36
        · rw [if_pos c, if_pos c]
        · rw [if_neg c, if_neg c, if_neg hk]
      have so : ∀ x, x ≠ B + 187 → hI (sI (sI h14 (B + 187) 40 1) (B + 187) 36 (nI (w + 1))) x = hI (sI h14 (B + 187) 36 (nI (w + 1))) x := fun x hx => by
        rw [hI_sI, if_neg hx, hI_sI, if_neg hx, hI_sI, if_neg hx]
      have fm : MFr B hr (sI (sI h14 (B + 187) 40 1) (B + 187) 36 (nI (w + 1))) := b11.tr ⟨rfl, fun x hx _ => ⟨so x hx, rfl, rfl, rfl⟩, fun k hk => sw k (by omega), rfl, fun i _ => by rw [so _ (by omega)], fun _ _ => rfl⟩
      have DM' : DM B q h1 (sI (sI h14 (B + 187) 40 1) (B + 187) 36 (nI (w + 1))) := MacD.keep2 (hc := h1) (cc := hI (sI h14 (B + 187) 36 (nI (w + 1))) (B + 192)) (vv := hD h14 (B + 193)) (fun j hj => ⟨rfl, rfl⟩) (fun _ _ _ => by rw [so _ (by omega)]) (fun _ _ _ => rfl) Y1.2.2.1
      refine Or.inr ⟨h1, _, fun fu => ?_, fun fu hfu => ?_, ⟨F1, G1, DM', Y2, Y3.rw (fun k hk => sw k (by omega)) (fun x x1 x2 => so x (by omega)), fun a j => Nat.le_trans (Y4 a j) (by omega), Y6, b10.2.2.2.2.1, Or.inl ⟨Y9, (sw 37 (by decide)).trans Y1.2.2.2.2.2.2.1⟩⟩, e40 _, b10, fm⟩
      · rw [show fu + (d + 1) + 2 = (fu + (d + 2)) + 1 from rfl, b5 (fu + (d + 2)), k_behind K S b4 hf.1, if_neg (by omega), if_pos h26, w_bd2, show fu + (d + 2) = (fu + (d + 1)) + 1 from rfl, pf_over]
      · obtain ⟨fu, rfl⟩ : ∃ w, fu = w + 2 := ⟨fu - 2, by omega⟩
        rw [show fu + 2 = (fu + 1) + 1 from rfl, tail _ fm b6 (fu + 1), over _ (e40 _) fu]
end RND
