/-! the rounds of a strip -/
section RDS2
variable {B b L : Nat} {E : EC} {xs : Nat → Int32} {op st bt : Nat → Nat} {aL aS aO : Nat} {g : MT} {h h' h1 h2 hr hr' hr1 : CT} {q z p pp : Nat} {f : Nat → Nat} {π : Pg} {ik k n nb y t T : Nat} {F : Nat → Nat → Nat} {G G0 : Nat → Nat → Int32}
theorem min16 {x : Nat} (hx : x < 2 ^ 31) : pJ9_min_7cf53 16 (nI x) = nI (min 16 x) := by
  unfold pJ9_min_7cf53
  by_cases c : nI x < 16
  · have : x < 16 := (nI_ltI (b := 16) hx (by decide)).mp c
    first
      | rw [if_pos c, show min 16 x = x by omega]
      | (rw [if_neg (Int32.not_lt.mpr (Int32.le_of_lt c)), show min 16 x = x by omega])
  · have h16 : ¬ x < 16 := fun w => c ((nI_ltI (b := 16) hx (by decide)).mpr w)
    by_cases d : (16 : Int32) < nI x
    · first
        | rw [if_neg c, show min 16 x = 16 by omega]; rfl
        | (rw [if_pos d, show min 16 x = 16 by omega]; rfl)
    · have e16 : x = 16 := by
        have h2 : ¬ 16 < x := fun w => d ((nI_ltI (a := 16) (by decide) hx).mpr w)
        omega
      subst e16
      rfl
theorem sI_sub {h h' : CT} {a k w : Nat} {x : Int32} (e : hI h' w = hI h w) : hI (sI h' a k x) w = hI (sI h a k x) w := by
  by_cases c : w = a
  · rw [hI_sI (h := h'), hI_sI (h := h), if_pos c, if_pos c, ← c, e]
  · rw [hI_sI (h := h'), hI_sI (h := h), if_neg c, if_neg c, e]
/-- an end: the class's, the reference's beginning -/
theorem RV.tb (S : Sh B g) (Q : QZ B q z) (h30 : π.1 ≤ 30) (X : RV B q z op g pp π nb y T h hr F G) (hT : T + 300 < 2 ^ 30) : ∃ h3 hr3, pX10_beginEnd g h z = some h3 ∧ pX13_begins g hr (B + 187) (pJ9_max_7cf53 (hI hr (B + 187) 32 + 1) (hI hr (B + 187) 31)) = some hr3 ∧ RV B q z op g pp π nb y (T + 300) h3 hr3 (bgF F (max (F 0 8) (F 0 9))) G ∧ NFr B q z h h3 ∧ MFr B hr hr3 := by
  obtain ⟨XM, C, Ct, hF, hJ, hG, PC, PM, tz, epp⟩ := X
  have XX := XM
  obtain ⟨R, p2, D, ⟨e6, e7⟩, ⟨v1, v2⟩, eb, tr0, ov0⟩ := XM
  have u8 := hF 0 8
  have u9 := hF 0 9
  obtain ⟨h3, b1, b2, b3⟩ := t_beginEnd R.2.2.2.2.1 C hF (by omega)
  obtain ⟨hr3, c1, c2, c3⟩ := r_begins S Ct (t := max (F 0 8) (F 0 9)) (T := T) (by omega) hF (by omega)
  have nf := b3.nf Q R.2.2.2.2.2.2
  have hF1 := bgF_le (F := F) hF (show max (F 0 8) (F 0 9) ≤ T by omega)
  have e192 : hI hr3 (B + 192) = hI hr (B + 192) := (c3.2.1 (B + 192) (by omega) (by omega)).1
  have eq' : hI h3 q = hI h q := (b3.2.1 q (by omega)).1
  refine ⟨h3, hr3, b1, ?_, ⟨⟨b3.run Q R, by rw [c3.1]; exact p2, c3.dm (b3.dm Q D), by rw [eq']; exact ⟨e6, e7⟩, by rw [e192]; exact ⟨v1, v2⟩, by rw [c3.2.2.1 33 (by decide) (by decide), b3.br Q]; exact eb, by rw [c3.2.2.1 37 (by decide) (by decide)]; exact tr0, by rw [c3.2.2.1 40 (by decide) (by decide)]; exact ov0⟩, b2, c2, fun a j => Nat.le_trans (hF1 a j) (by omega), fun b => ?_, hG, nf.pg S Q PC, c3.m.pg h30 PM, ⟨by rw [b3.2.2 3 (by decide)]; exact tz.1, by rw [b3.2.2 4 (by decide)]; exact tz.2.1, by rw [b3.2.2 5 (by decide)]; exact tz.2.2⟩, by rw [nf.1]; exact epp⟩, nf, c3.m⟩
  · have e80 : hI hr (B + 187) 32 + 1 = nI (F 0 8) := by rw [Ct.2.1, Int32.sub_add_cancel]
    have e9 : hI hr (B + 187) 31 = nI (F 0 9) := Ct.1 9 (by decide)
    rw [e80, e9, max_nI (by omega) (by omega)]
    exact c1
  · unfold bgF
    rw [up2_n (by omega), up2_n (by omega), up2_n (by omega), up2_n (by omega)]; exact hJ b
/-- the class's turn at an end -/
theorem pf_end (S : Sh B g) (R : RunC B q z g h) (P : PgC op g h pp π) (h30 : π.1 ≤ 30) {e i : Nat} (he : e ≤ 30) (epp : hR h q 8 = some pp) (o1 : hR h (B + 132) 6 = some i) (o2 : gT g i = 2) (o3 : hI h i 9 = nI e) {c : Nat} (hc : c < 1000000) {x : Int32} {h' : CT} (er : pX9_endRound g h (B + 132) = some (x, h')) (fu : Nat) : pX9_perform_l32 E g (B + 132) q z (fu + 1) (nI e) (nI c) h = pX9_perform_l32 E g (B + 132) q z fu x (nI (c + 1)) h' := by
  have at' : ∃ r, pX7_at g h pp (nI e) = some r := by
    by_cases w : e < π.1
    · exact ⟨_, k_at P h30 w⟩
    · exact ⟨_, k_atN P h30 (by omega) (by omega)⟩
  obtain ⟨r, at'⟩ := at'
  rw [pX9_perform_l32, pX9_perform_b32, if_neg (show ¬ (1000000 : Int32) ≤ nI c from nI_ge (b := 1000000) hc (by decide)), if_neg (show ¬ nI e = -1 from fun w => by
    have := congrArg Int32.toInt w
    rw [nI_toInt (by omega), show (-1 : Int32).toInt = -1 from rfl] at this
    omega), w_lt, R.2.1, w_nn, w_tg R.2.2.2.1.1, w_lt, epp, w_nn, w_tg P.1, at', w_bd, w_lt, if_neg (by rw [o1]; simp), w_lt, o1, w_nn, w_tg o2, o3, if_neg (fun w => Int32.lt_irrefl w), er, w_bd2]
  unfold pX9_perform_b180
  rw [w_lt, nI_1]
theorem rounds (K : EOK E b L xs op st bt aL aS aO) (S : Sh B g) (Q : QZ B q z) (wf : WF π) (nb1 : 1 ≤ nb) (nb2 : nb ≤ 16) (y1 : 1 ≤ y) (y2 : y ≤ 12) {fO fO' : CT → Nat → Int32 → Int32 → Option CT} (hfO : ∀ h a b, fO h (B + 187) a b = pX13_doAll_o_l2 g fO' (B + 187) a b FUEL a h) {k i was : Nat} (hk : k < π.1) (h25 : π.2 k 0 = 25) (hw : was ≤ 16) :
    ∀ (ρ r c : Nat) (h hr0 : CT) (F : Nat → Nat → Nat) (G : Nat → Nat → Int32), π.2 k 7 ≤ 16 * r + 16 * ρ → 16 * r < π.2 k 7 → c + ρ * (π.2 k 9 - k) < 9000 → RV B q z op g pp π nb y (300 * c) h (sI hr0 (B + 192) 0 (nI (min 16 (π.2 k 7 - 16 * r)))) F G → hI hr0 (B + 187) 40 = 0 → hR h (pp + 1) k = some i → hR h (B + 132) 6 = some i → hI h (B + 132) 7 = nI k → hI h (B + 132) 8 = nI was → hI h (B + 132) 9 = nI (16 * r) →
    (∃ h' hr' F' G' c', c ≤ c' ∧ c' ≤ c + ρ * (π.2 k 9 - k) ∧ (∀ fu, pX9_perform_l32 E g (B + 132) q z (fu + (c' - c)) (nI (k + 1)) (nI c) h = pX9_perform_l32 E g (B + 132) q z fu (nI (π.2 k 9)) (nI c') h') ∧ (∀ fu, ρ < fu → pX13_strips_l19 g fO (B + 187) (nI k) fu (nI was) (nI (π.2 k 7 - 16 * r)) hr0 = some hr') ∧ RV B q z op g pp π nb y (300 * c') h' hr' F' G' ∧ (hR h' (B + 132) 6 = none ∧ hI h' (B + 132) 9 = 0) ∧ WFr B q z h h' ∧ MFr B hr0 hr')
    ∨ ∃ h' hr', (∀ fu, pX9_perform_l32 E g (B + 132) q z (fu + ρ * (π.2 k 9 - k) + 2) (nI (k + 1)) (nI c) h = some h') ∧ (∀ fu, ρ < fu → pX13_strips_l19 g fO (B + 187) (nI k) fu (nI was) (nI (π.2 k 7 - 16 * r)) hr0 = some hr') ∧ EN B q z y (300 * (c + ρ * (π.2 k 9 - k))) h' hr' ∧ hI hr' (B + 187) 40 = 1 ∧ WFr B q z h h' ∧ MFr B hr0 hr' := by
  have h30 := wf.1
  have hf := wf.fok hk
  have hN : π.2 k 7 ≤ 200 := hf.2.2.2.2.2.2.2.1
  obtain ⟨ke, ee, eno⟩ := (wf.2 k hk).2.2.2.2.2.2.2.2.2.2.2 h25
  generalize hD : π.2 k 9 - k = D
  intro ρ
  induction ρ with
  | zero => intro r c h hr0 F G h1 h2; omega
  | succ ρ ih =>
    intro r c h hr0 F G hr1 hr2 hc X ov o0 o1 o7 o8 o9
    have eM : (ρ + 1) * D = ρ * D + D := Nat.succ_mul ρ D
    rw [eM] at hc ⊢
    obtain ⟨i', j1, j2, j3, j4⟩ := X.2.2.2.2.2.2.1.2.2.2.2.2 k hk
    rw [o0] at j1
    cases j1
    have e9 : hI h i 9 = nI (π.2 k 9) := j4 9 (by decide) (by decide)
    have e7 : hI h i 7 = nI (π.2 k 7) := j4 7 (by decide) (by decide)
    obtain ⟨a1, a2, a3⟩ := prog_out S Q (Or.inl j2)
    have hv : min 16 (π.2 k 7 - 16 * r) ≤ 16 := Nat.min_le_left _ _
    -- the reference's first steps
    have fm0 : MFr B hr0 (sI hr0 (B + 192) 0 (nI (min 16 (π.2 k 7 - 16 * r)))) := ⟨rfl, fun x hx hc => (Eqa.rf hr0 x).sI (by omega), fun k _ => by rw [hI_sI, if_neg (by omega)], rfl, fun i hi => by rw [hI_sI, if_pos rfl, ud_n (by omega)], fun _ _ => rfl⟩
    have p20 : PtR B (hR hr0) := X.1.2.1
    have l19 : ∀ fu, pX13_strips_l19 g fO (B + 187) (nI k) (fu + 1) (nI was) (nI (π.2 k 7 - 16 * r)) hr0 = bd (pX13_doAll_o_l2 g fO' (B + 187) (nI (k + 1)) (nI (π.2 k 9)) FUEL (nI (k + 1)) (sI hr0 (B + 192) 0 (nI (min 16 (π.2 k 7 - 16 * r))))) fun h9 => (if (hI h9 (B + 187) 40) = 0 then bd (pX13_begins g h9 (B + 187) (pJ9_max_7cf53 ((hI h9 (B + 187) 32) + 1) (hI h9 (B + 187) 31))) fun h12 => (lt (nI (π.2 k 7 - 16 * r) + (-16)) fun x14 => (lt (sI h12 (B + 187) 33 ((hI h12 (B + 187) 33) + 16)) fun h15 => (pX13_strips_l19 g fO (B + 187) (nI k) fu (nI was) x14 h15))) else some h9) := fun fu => by
      have a7 := (im_at S X.1.2.1 (show k < 30 by omega) (X.2.2.2.2.2.2.2.1.im hk)).2.2.2.2.2.2.2 h25
      rw [pX13_strips_l19, pX13_strips_b19, if_neg (nI_nle (by omega) (by omega)), if_pos ov, w_lt, pr_187_19 p20, w_nn, w_tg (st_192 S), sl_192 S, w_ixl (show 0 < 1476 by decide) (by decide), cl_l 0 (by decide), min16 (by omega), w_lt, a7, w_bd, nI_1, hfO]
    have hDe : π.2 k 9 = k + D := by omega
    -- the body
    rcases inner K S Q wf nb1 nb2 y1 y2 fO' (nI (k + 1)) (k := k) (e := π.2 k 9) (s := i) ee (fun j g1 g2 => by have := eno j g1 g2; omega) j2 (D - 1) (k + 1) c h _ F G (by omega) (by omega) (by omega) X o1 e9 with ⟨h1, hr1', F1, G1, u1, u2, u3, u4, u5⟩ | ⟨h1, hr1', u1, u2, u3, u4, u5, u6⟩
    · -- its end
      obtain ⟨h3, hr3, b1, b2, b3, b4, b5⟩ := RV.tb S Q h30 u3 (by omega)
      have n13 := u4.tr b4
      have m13 := fm0.tr (u5.tr b5)
      have c7 : hI h3 (B + 132) 7 = nI k := by rw [n13.2.2.2.2.2 7 (by decide)]; exact o7
      have c8 : hI h3 (B + 132) 8 = nI was := by rw [n13.2.2.2.2.2 8 (by decide)]; exact o8
      have c9 : hI h3 (B + 132) 9 = nI (16 * r) := by rw [n13.2.2.2.2.2 9 (by decide)]; exact o9
      have c6 : hR h3 (B + 132) 6 = some i := by rw [n13.1]; exact o1
      have c6' : hR h1 (B + 132) 6 = some i := by rw [u4.1]; exact o1
      have i9 : hI h3 i 9 = nI (π.2 k 9) := by rw [(n13.2.1 i a1 a2 (by omega)).1]; exact e9
      have i7 : hI h3 i 7 = nI (π.2 k 7) := by rw [(n13.2.1 i a1 a2 (by omega)).1]; exact e7
      have i9' : hI h1 i 9 = nI (π.2 k 9) := by rw [(u4.2.1 i a1 a2 (by omega)).1]; exact e9
      have R3 := b3.1.1
      have ni : i ≠ B + 132 := by omega
      have e16 : nI (16 * r) + 16 = nI (16 * (r + 1)) := by rw [show (16 : Int32) = nI 16 from rfl, nI_add]; congr 1
      have ov1 : hI hr1' (B + 187) 40 = 0 := u3.1.2.2.2.2.2.2.2
      have e33 : hI hr3 (B + 187) 33 = nI (16 * r) := by rw [b3.1.2.2.2.2.2.1]; exact c9
      have rr : ∀ fu, pX13_strips_l19 g fO (B + 187) (nI k) (fu + 1) (nI was) (nI (π.2 k 7 - 16 * r)) hr0 = pX13_strips_l19 g fO (B + 187) (nI k) fu (nI was) (nI (π.2 k 7 - 16 * r) + (-16)) (sI hr3 (B + 187) 33 (nI (16 * (r + 1)))) := fun fu => by
        rw [l19 fu, u2 FUEL (by unfold FUEL; omega), w_bd, if_pos ov1, b2, w_bd, w_lt, w_lt, e33, e16]
      by_cases cn : 16 * (r + 1) < π.2 k 7
      · -- one more
        have er : pX9_endRound g h1 (B + 132) = some (nI (k + 1), sI (sI h3 (B + 132) 9 (nI (16 * (r + 1)))) q 5 (nI (min 16 (π.2 k 7 - 16 * (r + 1))))) := by
          unfold pX9_endRound
          rw [w_tg (st_132 S), w_lt, u3.1.1.2.2.1, w_nn, w_tg u3.1.1.2.2.2.2.1.1, b1, w_bd, c9, e16, w_lt, w_lt, hR_sI, c6, w_nn, w_tg j2, hI_sI, if_neg ni, i7, hI_s, if_neg (nI_ge cn (by omega)), w_lt, R3.2.1, w_lt, w_nn, w_tg j2, w_nn, w_tg R3.2.2.2.1.1, hI_sI, if_neg ni, i7, pk_sub (by omega), min16 (by omega), w_lt, hI_sI, if_neg (by omega), hI_sI, if_pos rfl, ud_n (by decide), c7, nI_1]
        obtain ⟨Y1, Y2, Y3⟩ := RV.upd (h' := sI (sI h3 (B + 132) 9 (nI (16 * (r + 1)))) q 5 (nI (min 16 (π.2 k 7 - 16 * (r + 1))))) (hr' := sI (sI hr3 (B + 187) 33 (nI (16 * (r + 1)))) (B + 192) 0 (nI (min 16 (π.2 k 7 - 16 * (r + 1))))) S Q h30 b3 (v := min 16 (π.2 k 7 - 16 * (r + 1))) (Nat.min_le_left _ _) (fun _ _ _ => rfl) (fun w hw => sI_sub (by rw [hI_sI, if_neg hw])) rfl rfl rfl (fun w hw => sI_sub (by rw [hI_sI, if_neg hw])) rfl rfl (fun k hk => by rw [hI_sI, if_neg (by omega), hI_sI, if_pos rfl, ud_n hk]) (by rw [hI_sI, if_neg (by omega), hI_s, hI_sI, if_neg (by omega), hI_s])
        have ovn : hI (sI hr3 (B + 187) 33 (nI (16 * (r + 1)))) (B + 187) 40 = 0 := by rw [hI_sI, if_pos rfl, ud_n (by decide)]; exact b3.1.2.2.2.2.2.2.2
        have hcD : c + (D - 1) + 1 = c + D := by omega
        have Y1' : RV B q z op g pp π nb y (300 * (c + D)) (sI (sI h3 (B + 132) 9 (nI (16 * (r + 1)))) q 5 (nI (min 16 (π.2 k 7 - 16 * (r + 1))))) (sI (sI hr3 (B + 187) 33 (nI (16 * (r + 1)))) (B + 192) 0 (nI (min 16 (π.2 k 7 - 16 * (r + 1))))) (bgF F1 (max (F1 0 8) (F1 0 9))) G1 := Y1.mono (by omega)
        have fw : ∀ w, w ≠ q → w ≠ B + 132 → hI (sI (sI h3 (B + 132) 9 (nI (16 * (r + 1)))) q 5 (nI (min 16 (π.2 k 7 - 16 * (r + 1))))) w = hI h3 w := fun w w1 w2 => by rw [hI_sI, if_neg w1, hI_sI, if_neg w2]
        have f132 : ∀ j, j ≠ 9 → hI (sI (sI h3 (B + 132) 9 (nI (16 * (r + 1)))) q 5 (nI (min 16 (π.2 k 7 - 16 * (r + 1))))) (B + 132) j = hI h3 (B + 132) j := fun j hj => by rw [hI_sI, if_neg (by omega), hI_sI, if_pos rfl, ud_n hj]
        have neg16 : nI (π.2 k 7 - 16 * r) + (-16) = nI (π.2 k 7 - 16 * (r + 1)) := by
          rw [show (-16 : Int32) = -(nI 16) from rfl, ← Int32.sub_eq_add_neg, pk_sub (by omega)]
          congr 1
        have turn : ∀ fu, pX9_perform_l32 E g (B + 132) q z (fu + D) (nI (k + 1)) (nI c) h = pX9_perform_l32 E g (B + 132) q z fu (nI (k + 1)) (nI (c + D)) (sI (sI h3 (B + 132) 9 (nI (16 * (r + 1)))) q 5 (nI (min 16 (π.2 k 7 - 16 * (r + 1))))) := fun fu => by
          rw [show fu + D = (fu + 1) + (D - 1) by omega, u1 (fu + 1), pf_end S u3.1.1 u3.2.2.2.2.2.2.1 h30 (by omega) u3.2.2.2.2.2.2.2.2.2 c6' j2 i9' (by omega) er fu, hcD]
        rcases ih (r + 1) (c + D) _ (sI hr3 (B + 187) 33 (nI (16 * (r + 1)))) _ _ (by omega) cn (by omega) Y1' ovn (by rw [show hR (sI (sI h3 (B + 132) 9 (nI (16 * (r + 1)))) q 5 (nI (min 16 (π.2 k 7 - 16 * (r + 1))))) = hR h3 from rfl, n13.1]; exact o0) c6 (by rw [f132 7 (by decide)]; exact c7) (by rw [f132 8 (by decide)]; exact c8) (by rw [hI_sI, if_neg (by omega), hI_s]) with ⟨h', hr', F', G', c', g1, g2, g3, g4, g5, g6, g7, g8⟩ | ⟨h', hr', g1, g2, g3, g4, g5, g6⟩
        · have m3 : MFr B hr3 (sI hr3 (B + 187) 33 (nI (16 * (r + 1)))) := ⟨rfl, fun x hx _ => (Eqa.rf hr3 x).sI hx, fun k hk => by rw [hI_sI, if_pos rfl, ud_n (by omega)], rfl, fun i _ => by rw [hI_sI, if_neg (by omega)], fun _ _ => rfl⟩
          refine Or.inl ⟨h', hr', F', G', c', by omega, by omega, fun fu => ?_, fun fu hfu => ?_, g5, g6, n13.w.tr (Y2.tr g7), m13.tr (m3.tr g8)⟩
          · rw [show fu + (c' - c) = (fu + (c' - (c + D))) + D by omega, turn, g3 fu]
          · obtain ⟨fu, rfl⟩ : ∃ w, fu = w + 1 := ⟨fu - 1, by omega⟩
            rw [rr fu, neg16]
            exact g4 fu (by omega)
        · have m3 : MFr B hr3 (sI hr3 (B + 187) 33 (nI (16 * (r + 1)))) := ⟨rfl, fun x hx _ => (Eqa.rf hr3 x).sI hx, fun k hk => by rw [hI_sI, if_pos rfl, ud_n (by omega)], rfl, fun i _ => by rw [hI_sI, if_neg (by omega)], fun _ _ => rfl⟩
          refine Or.inr ⟨h', hr', fun fu => ?_, fun fu hfu => ?_, g3.mono (by omega), g4, n13.w.tr (Y2.tr g5), m13.tr (m3.tr g6)⟩
          · rw [show fu + (ρ * D + D) + 2 = (fu + ρ * D + 2) + D by omega, turn, g1 fu]
          · obtain ⟨fu, rfl⟩ : ∃ w, fu = w + 1 := ⟨fu - 1, by omega⟩
            rw [rr fu, neg16]
            exact g2 fu (by omega)
      · -- behind the strip
        left
        have er : pX9_endRound g h1 (B + 132) = some (nI (π.2 k 9), sR (sI (sI (sI h3 (B + 132) 9 (nI (16 * (r + 1)))) (B + 132) 9 0) q 5 (nI was)) (B + 132) 6 none) := by
          unfold pX9_endRound
          rw [w_tg (st_132 S), w_lt, u3.1.1.2.2.1, w_nn, w_tg u3.1.1.2.2.2.2.1.1, b1, w_bd, c9, e16, w_lt, w_lt, hR_sI, c6, w_nn, w_tg j2, hI_sI, if_neg ni, i7, hI_s, if_pos (nI_le (by omega) (by omega)), w_lt, w_nn, w_tg j2, hI_sI, if_neg ni, i9, w_lt, w_lt, w_lt, hR_sI, hR_sI, R3.2.1, w_nn, w_tg R3.2.2.2.1.1, hI_sI, if_pos rfl, ud_n (by decide), hI_sI, if_pos rfl, ud_n (by decide), c8, w_lt, w_lt]
        obtain ⟨Y1, Y2, Y3⟩ := RV.upd (h' := sR (sI (sI (sI h3 (B + 132) 9 (nI (16 * (r + 1)))) (B + 132) 9 0) q 5 (nI was)) (B + 132) 6 none) (hr' := sI (sI (sI hr3 (B + 187) 33 (nI (16 * (r + 1)))) (B + 192) 0 (nI was)) (B + 187) 33 0) S Q h30 b3 (v := was) hw (fun x k hxk => by
          rw [hR_sR]
          by_cases cx : x = B + 132
          · rw [if_pos cx, ud_n (fun w => hxk ⟨cx, w⟩), cx]; rfl
          · rw [if_neg cx]; rfl) (fun w hw => by
          rw [hI_sR]
          exact sI_sub (by rw [hI_sI, if_neg hw, hI_sI, if_neg hw])) rfl rfl rfl (fun w hw => by
          rw [hI_sI, if_neg hw]
          exact sI_sub (by rw [hI_sI, if_neg hw])) rfl rfl (fun k hk => by rw [hI_sI, if_pos rfl, ud_n hk, hI_sI, if_neg (by omega), hI_sI, if_pos rfl, ud_n hk]) (by rw [hI_s, hI_sR, hI_sI, if_neg (by omega), hI_s])
        have hcD : c + (D - 1) + 1 = c + D := by omega
        have neg16 : nI (π.2 k 7 - 16 * r) + (-16) ≤ 0 := by
          rw [Int32.le_iff_toInt_le, Int32.toInt_add, nI_toInt (by omega), show (-16 : Int32).toInt = -16 from rfl, show (0 : Int32).toInt = 0 from rfl, Int.bmod_eq_of_le (by omega) (by omega)]
          omega
        refine ⟨_, _, _, _, c + D, by omega, by omega, fun fu => ?_, fun fu hfu => ?_, Y1.mono (by omega), ?_, n13.w.tr Y2, m13.tr Y3⟩
        · rw [show fu + (c + D - c) = (fu + 1) + (D - 1) by omega, u1 (fu + 1), pf_end S u3.1.1 u3.2.2.2.2.2.2.1 h30 (by omega) u3.2.2.2.2.2.2.2.2.2 c6' j2 i9' (by omega) er fu, hcD]
        · obtain ⟨fu, rfl⟩ : ∃ w, fu = w + 2 := ⟨fu - 2, by omega⟩
          have p23 : PtR B (hR (sI hr3 (B + 187) 33 (nI (16 * (r + 1))))) := b3.1.2.1
          rw [show fu + 2 = (fu + 1) + 1 from rfl, rr (fu + 1), pX13_strips_l19, pX13_strips_b19, if_pos neg16]
          unfold pX13_strips_b98
          rw [w_lt, pr_187_19 p23, w_nn, w_tg (st_192 S), sl_192 S, w_ixl (show 0 < 1476 by decide) (by decide), cl_l 0 (by decide), w_lt, w_lt]
        · exact ⟨by rw [hR_sR, if_pos rfl, ud_s], by rw [hI_sR, hI_sI, if_neg (by omega), hI_s]⟩
    · refine Or.inr ⟨h1, hr1', fun fu => ?_, fun fu hfu => ?_, u3.mono (by omega), u4, u5.w, fm0.tr u6⟩
      · rw [show fu + (ρ * D + D) + 2 = (fu + ρ * D + 1) + (D - 1) + 2 by omega]
        exact u1 (fu + ρ * D + 1)
      · obtain ⟨fu, rfl⟩ : ∃ w, fu = w + 1 := ⟨fu - 1, by omega⟩
        rw [l19 fu, u2 FUEL (by unfold FUEL; omega), w_bd, if_neg (by rw [u4]; decide)]
end RDS2
