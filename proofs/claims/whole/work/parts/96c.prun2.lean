/-! strips: what they write, a bare INSTRUCTION, the end of a round -/
section STR
variable {B b L : Nat} {E : EC} {xs : Nat → Int32} {op st bt : Nat → Nat} {aL aS aO : Nat} {g : MT} {h h' h1 h2 hr hr' hr1 : CT} {q z p pp : Nat} {f : Nat → Nat} {π : Pg} {ik k n nb y t T : Nat} {F : Nat → Nat → Nat} {G G0 : Nat → Nat → Int32} {fO : CT → Nat → Int32 → Int32 → Option CT}
/-- the class's cells that a run writes -/
def WFr (B q z : Nat) (h h' : CT) : Prop := (∀ x k, ¬ (x = B + 132 ∧ k = 6) → hR h' x k = hR h x k) ∧ (∀ w, (w < q ∨ q + 26 < w) → (w < z ∨ z + 6 < w) → (w < B + 130 ∨ B + 137 < w ∨ w = B + 131) → hI h' w = hI h w ∧ hL h' w = hL h w ∧ hD h' w = hD h w) ∧ (∀ k, k ≠ 4 → hI h' (B + 130) k = hI h (B + 130) k) ∧ (∀ k, k ≠ 3 → hL h' (B + 130) k = hL h (B + 130) k) ∧ SC B h'
theorem WFr.rf (s : SC B h) : WFr B q z h h := ⟨fun _ _ _ => rfl, fun _ _ _ _ => ⟨rfl, rfl, rfl⟩, fun _ _ => rfl, fun _ _ => rfl, s⟩
theorem WFr.tr (x : WFr B q z h h1) (u : WFr B q z h1 h2) : WFr B q z h h2 := ⟨fun a k c => (u.1 a k c).trans (x.1 a k c), fun w a b c => ⟨(u.2.1 w a b c).1.trans (x.2.1 w a b c).1, (u.2.1 w a b c).2.1.trans (x.2.1 w a b c).2.1, (u.2.1 w a b c).2.2.trans (x.2.1 w a b c).2.2⟩, fun k hk => (u.2.2.1 k hk).trans (x.2.2.1 k hk), fun k hk => (u.2.2.2.1 k hk).trans (x.2.2.2.1 k hk), u.2.2.2.2⟩
theorem NFr.w (x : NFr B q z h h1) : WFr B q z h h1 := ⟨fun _ _ _ => by rw [x.1], x.2.1, x.2.2.1, x.2.2.2.1, x.2.2.2.2.1⟩
theorem no_132_6 : ∀ q ∈ spC, ¬ (q.1 = 132 ∧ q.2.1 = 6) := by decide +kernel
theorem RunC.w (Q : QZ B q z) (R : RunC B q z g h) (eR : ∀ x k, ¬ (x = B + 132 ∧ k = 6) → hR h' x k = hR h x k) (eP : hD h' (B + 131) = hD h (B + 131)) (eS : SC B h') : RunC B q z g h' := by
  obtain ⟨r1, r2, r3, ⟨m1, m2, m3, m4, m5, m6, m7, m8, m9, ⟨n1, n2, n3, n4⟩, m11, ⟨o1, o2, o3, o4⟩⟩, ⟨t1, ⟨t2, t3⟩, ⟨t4, t5⟩, ⟨t6, t7⟩, ⟨t8, t9⟩, ⟨t10, t11⟩, t12, t13⟩, r6, r7⟩ := R
  have er : ∀ x k, x ≠ B + 132 → hR h' x k = hR h x k := fun x k hx => eR x k fun w => hx w.1
  refine ⟨fun w hw => ?_, by rw [eR _ _ (by omega)]; exact r2, by rw [eR _ _ (by omega)]; exact r3, ⟨m1, by rw [er _ _ (by omega)]; exact m2, m3, m4, fun i hi => ?_, by rw [er _ _ (by omega)]; exact m6, m7, m8, by rw [er _ _ (by omega)]; exact m9, ⟨n1, by rw [er _ _ (by omega)]; exact n2, by rw [er _ _ (by omega)]; exact n3, n4⟩, by rw [er _ _ (by omega)]; exact m11, ⟨o1, by rw [er _ _ (by omega)]; exact o2, by rw [er _ _ (by omega)]; exact o3, o4⟩⟩, ⟨t1, ⟨by rw [er _ _ (by omega)]; exact t2, t3⟩, ⟨by rw [er _ _ (by omega)]; exact t4, t5⟩, ⟨by rw [er _ _ (by omega)]; exact t6, t7⟩, ⟨by rw [er _ _ (by omega)]; exact t8, t9⟩, ⟨by rw [er _ _ (by omega)]; exact t10, t11⟩, by rw [er _ _ (by omega)]; exact t12, t13⟩, fun k hk => by rw [eP]; exact r6 k hk, eS⟩
  · rw [eR _ _ (fun c => no_132_6 w hw ⟨by omega, c.2⟩)]; exact r1 w hw
  · obtain ⟨a1, b1, b2, b3, b4⟩ := m5 i hi
    exact ⟨by rw [er _ _ (by omega)]; exact a1, b1, by rw [er _ _ (by omega)]; exact b2, by rw [er _ _ (by omega)]; exact b3, b4⟩
/-- VL is set, and the Runner's own fields, in both -/
theorem RV.upd (S : Sh B g) (Q : QZ B q z) (h30 : π.1 ≤ 30) (X : RV B q z op g pp π nb y T h hr F G) {v : Nat} (hv : v ≤ 16) (eR : ∀ x k, ¬ (x = B + 132 ∧ k = 6) → hR h' x k = hR h x k) (eI : ∀ w, w ≠ B + 132 → hI h' w = hI (sI h q 5 (nI v)) w) (eL : hL h' = hL h) (eD : hD h' = hD h)
    (fR : hR hr' = hR hr) (fI : ∀ w, w ≠ B + 187 → hI hr' w = hI (sI hr (B + 192) 0 (nI v)) w) (fL : hL hr' = hL hr) (fD : hD hr' = hD hr) (f187 : ∀ k, k ≠ 33 → hI hr' (B + 187) k = hI hr (B + 187) k) (f33 : hI hr' (B + 187) 33 = hI h' (B + 132) 9) : RV B q z op g pp π nb y T h' hr' F G ∧ WFr B q z h h' ∧ MFr B hr hr' := by
  obtain ⟨⟨R, p2, D, ⟨e6, e7⟩, ⟨v1, v2⟩, eb, tr0, ov0⟩, C, Ct, hF, hJ, hG, PC, PM, tz, epp⟩ := X
  have D1 := dm_vl Q D hv
  have eq0 : ∀ w, w ≠ B + 132 → w ≠ q → hI h' w = hI h w := fun w a c => by rw [eI w a, hI_sI, if_neg c]
  have sc : SC B h' := ⟨by rw [eq0 _ (by omega) (by omega)]; exact R.2.2.2.2.2.2.1, by rw [eq0 _ (by omega) (by omega)]; exact R.2.2.2.2.2.2.2⟩
  have ez : ∀ w, z ≤ w → w ≤ z + 6 → hI h' w = hI h w := fun w w1 w2 => eq0 w (by omega) (by omega)
  have fm : MFr B hr hr' := ⟨fR, fun w a c => ⟨by rw [fI w a, hI_sI, if_neg (by omega)], by rw [fL], by rw [fD], by rw [fR]⟩, fun k hk => f187 k (by omega), by rw [fL], fun i hi => by rw [fI _ (by omega), hI_sI, if_pos rfl, ud_n (by omega)], fun _ _ => by rw [fD]⟩
  have e192 : ∀ i, i ≠ 0 → hI hr' (B + 192) i = hI hr (B + 192) i := fun i hi => by rw [fI _ (by omega), hI_sI, if_pos rfl, ud_n hi]
  have eqj : ∀ j, j ≠ 5 → hI h' q j = hI h q j := fun j hj => by rw [eI q (by omega), hI_sI, if_pos rfl, ud_n hj]
  refine ⟨⟨⟨R.w Q eR (by rw [eD]) sc, by rw [fR]; exact p2, ?_, ⟨by rw [eqj 6 (by decide)]; exact e6, by rw [eqj 7 (by decide)]; exact e7⟩, ⟨by rw [e192 1 (by decide)]; exact v1, by rw [e192 2 (by decide)]; exact v2⟩, f33, by rw [f187 37 (by decide)]; exact tr0, by rw [f187 40 (by decide)]; exact ov0⟩, C.rw ez, Ct.rw (fun k hk => f187 k (by omega)) (fun w w1 w2 => by rw [fI w (by omega), hI_sI, if_neg (by omega)]), hF, hJ, hG, PC.kp S Q (fun w a c d => eq0 w (by omega) (by omega)) (fun w hw => funext fun k => eR w k fun c => hw c.1), fm.pg h30 PM, ?_, by rw [eR _ _ (by omega)]; exact epp⟩, ⟨eR, fun w a c d => ⟨eq0 w (by omega) (by omega), by rw [eL], by rw [eD]⟩, fun k _ => by rw [eq0 _ (by omega) (by omega)], fun k _ => by rw [eL], sc⟩, fm⟩
  · refine MacD.keep2 (hc := sI h q 5 (nI v)) (cc := hI (sI hr (B + 192) 0 (nI v)) (B + 192)) (vv := hD (sI hr (B + 192) 0 (nI v)) (B + 193)) (fun j hj => ⟨eI _ (by omega), ?_⟩) (fun j _ _ => ?_) (fun j _ _ => ?_) D1
    · rw [eD]; rfl
    · rw [fI _ (by omega)]
    · rw [fD]; rfl
  · rw [ez z (Nat.le_refl z) (Nat.le_add_right z 6)]; exact tz
/-- strip, stop: they BEGIN and are done -/
theorem bare (K : EOK E b L xs op st bt aL aS aO) (S : Sh B g) (Q : QZ B q z) (wf : WF π) (hk : k < π.1) {c : Nat} (hc : c < 10000) (X : RV B q z op g pp π nb y (300 * c) h hr F G) (O : OpenS B g h k) (h2 : π.2 k 0 = 25 ∨ π.2 k 0 = 26) (fO : CT → Nat → Int32 → Int32 → Option CT) :
    ∃ i n h' h14 d F' G', hR h (pp + 1) k = some i ∧ hI h q 5 = nI n ∧ n ≤ 16 ∧ IC op g h' i (π.2 k) ∧ (∀ fu, pX9_perform_l32 E g (B + 132) q z (fu + 1) (nI k) (nI c) h = bd2 (pX9_behind E g h' (B + 132) (nI k) i) fun x6 h4 => pX9_perform_l32 E g (B + 132) q z fu x6 (nI (c + 1)) h4)
      ∧ pX13_doOne g fO hr (B + 187) (nI k) = (if π.2 k 0 = 26 then lt (sI h14 (B + 187) 40 1) fun h21 => (pX13_doOne_b152 g fO (B + 187) (nI k) (nI (π.2 k 0)) h21) else pX13_doOne_b152 g fO (B + 187) (nI k) (nI (π.2 k 0)) h14) ∧ hI h14 (B + 187) 36 = nI d ∧ hI h14 (B + 187) 37 = 0 ∧ RV B q z op g pp π nb y (300 * (c + 1)) h' (sI h14 (B + 187) 36 (nI (d + 1))) F' G' ∧ NFr B q z h h' ∧ MFr B hr (sI h14 (B + 187) 36 (nI (d + 1))) := by
  obtain ⟨XM, C, Ct, hF, hJ, hG, PC, PM, tz, epp⟩ := X
  have XX := XM
  obtain ⟨R, p2, D, ⟨e6, e7⟩, ⟨v1, v2⟩, eb, tr0, ov0⟩ := XM
  have h30 := wf.1
  have hk30 : k < 30 := by omega
  have hf := wf.fok hk
  obtain ⟨i, i1, i2, i3, i4⟩ := PC.2.2.2.2.2 k hk
  have I : IC op g h i (π.2 k) := ⟨i2, i3, i4⟩
  have M : IM B hr k (π.2 k) := PM.im hk
  obtain ⟨⟨n, hn, n1, n2⟩, -⟩ := D
  have D : DM B q h hr := XX.2.2.1
  have hzi := ic_outz S Q I.1
  have bt := bgT_le (f := π.2 k) hF n
  obtain ⟨h6, b1, b2, b3⟩ := t_begin K R.2.2.2.2.1 C (n := n) (T := 300 * c) I hzi hf hk30 hn hF (by omega)
  obtain ⟨h14, s1, s2, s3⟩ := r_start (fO := fO) (n := n) S p2 Ct hk30 M hf hn n2 hF (by omega)
  have R6 := b3.run Q R
  have I6 := I.fr b3 hzi
  have nf6 := b3.nf Q R.2.2.2.2.2.2
  have X14 : SP B q z op g i (π.2 k) k n nb y h6 h14 := ((XX.sp I M n1 n2).t S Q b3).r s1
  have hF1 : ∀ a j, bgF F (bgT F (π.2 k) n) a j ≤ 300 * c + 1 := bgF_le hF bt.1
  have g63 : ∀ a j, a ≠ 0 → bgF F (bgT F (π.2 k) n) a j = F a j := fun a j ha => by
    unfold bgF
    rw [up2_n (fun w => ha w.1), up2_n (fun w => ha w.1)]
  have t30 : bgT F (π.2 k) n < 2 ^ 30 := by omega
  have hG1 : GOK (up2 (up2 G 1 k (nI (bgT F (π.2 k) n))) 2 k (-1)) := hG.beg t30
  have e2 : hI h6 z 2 = nI (bgF F (bgT F (π.2 k) n) 0 2) := b2.1 2 (by decide)
  have r2 : hI h14 (B + 187) 36 = nI (bgF F (bgT F (π.2 k) n) 0 2) := s2.1 2 (by decide)
  rw [if_neg (show ¬ isEl (π.2 k 0) by omega), if_neg (show ¬ isFo (π.2 k 0) by omega), if_neg (show ¬ π.2 k 0 = 22 by omega), if_neg (show ¬ π.2 k 0 = 20 by omega), if_neg (show ¬ π.2 k 0 = 0 by omega)] at s3
  generalize bgT F (π.2 k) n = t at *
  have fr : TFr z h6 (sI h6 z 2 (nI (bgF F t 0 2 + 1))) := (TFr.rf z h6).o (by decide)
  have fr' : RFr B h14 (sI h14 (B + 187) 36 (nI (bgF F t 0 2 + 1))) := (RFr.rf B h14).o (by decide)
  have nf : NFr B q z h (sI h6 z 2 (nI (bgF F t 0 2 + 1))) := nf6.tr (fr.nf Q R6.2.2.2.2.2.2)
  have mf : MFr B hr (sI h14 (B + 187) 36 (nI (bgF F t 0 2 + 1))) := s1.m.tr fr'.m
  have Y := ((X14.t S Q fr).r fr').ms
  have sw : pX9_doAtOnce E g h6 (B + 132) (nI k) i = some (1, h6) := by
    rw [k_sw K S I6 hf]
    rcases h2 with w | w <;> rw [w] <;> rfl
  refine ⟨i, n, sI h6 z 2 (nI (bgF F t 0 2 + 1)), h14, bgF F t 0 2, up2 (bgF F t) 0 2 (bgF F t 0 2 + 1), _, i1, n1, hn, I6.fr fr hzi, fun fu => ?_, s3, r2, X14.2.2.2.2.2.2.2.2.1, ⟨Y, b2.o (by decide), s2.o (j := 2) (by decide), fun a j => ?_, fun b => ?_, hG1, nf.pg S Q PC, mf.pg h30 PM, ⟨?_, ?_, ?_⟩, ?_⟩, nf, mf⟩
  · rw [pf_go S R PC h30 hk epp O (by omega) fu, i1, pf_83 K S R I hf.1 n1 b1 I6 (r := 1) (h' := h6) (by rw [if_neg (show ¬ isEl (π.2 k 0) by omega)]; exact sw), pf_fine R.2.2.2.2.1.1 (by rw [b3.1]; exact R.2.2.1) _ e2]
  · have a1 := hF1 0 2
    have a2 := hF1 a j
    unfold up2
    split <;> omega
  · rw [up2_n (by omega), up2_n (by omega), g63 6 b (by decide), g63 3 0 (by decide)]; exact hJ b
  · rw [fr.2.2 3 (by decide), b3.2.2 3 (by decide)]; exact tz.1
  · rw [fr.2.2 4 (by decide), b3.2.2 4 (by decide)]; exact tz.2.1
  · rw [fr.2.2 5 (by decide), b3.2.2 5 (by decide)]; exact tz.2.2
  · rw [nf.1]; exact epp
end STR
