/-! turns of the class's loop -/
section TRN
variable {B b L : Nat} {E : EC} {xs : Nat → Int32} {op st bt : Nat → Nat} {aL aS aO : Nat} {g : MT} {h h1 hr hr1 : CT} {q z p pp : Nat} {f : Nat → Nat} {π : Pg} {ik k n nb y t T : Nat} {F : Nat → Nat → Nat} {G G0 : Nat → Nat → Int32} {fO : CT → Nat → Int32 → Int32 → Option CT}
theorem RV.mono {T' : Nat} (X : RV B q z op g pp π nb y T h hr F G) (hT : T ≤ T') : RV B q z op g pp π nb y T' h hr F G := ⟨X.1, X.2.1, X.2.2.1, fun a j => Nat.le_trans (X.2.2.2.1 a j) hT, X.2.2.2.2⟩
/-- how a run ended, in both -/
def EN (B q z y T : Nat) (h hr : CT) : Prop := ∃ F G, DM B q h hr ∧ TC z h F G ∧ TR B y hr F G ∧ (∀ a j, F a j ≤ T) ∧ GOK G ∧ SC B h ∧ (((hI h z 3 = 0 ∧ hI h z 4 = -1 ∧ hI h z 5 = -1) ∧ hI hr (B + 187) 37 = 0) ∨ ∃ ik, ik < 30 ∧ TrapF B z h hr ik)
theorem EN.mono {T' : Nat} (X : EN B q z y T h hr) (hT : T ≤ T') : EN B q z y T' h hr := by
  obtain ⟨F, G, a1, a2, a3, a4, a5⟩ := X
  exact ⟨F, G, a1, a2, a3, fun a j => Nat.le_trans (a4 a j) hT, a5⟩
/-- the strip that runs: none, or one whose end lies behind k -/
def OpenS (B : Nat) (g : MT) (h : CT) (k : Nat) : Prop := hR h (B + 132) 6 = none ∨ ∃ s e, hR h (B + 132) 6 = some s ∧ gT g s = 2 ∧ hI h s 9 = nI e ∧ k < e ∧ e ≤ 30
theorem NFr.opn (x : NFr B q z h h1) (S : Sh B g) (Q : QZ B q z) (O : OpenS B g h k) {k' : Nat} (hk : ∀ e, k < e → hR h (B + 132) 6 ≠ none → k' < e) : OpenS B g h1 k' := by
  rcases O with O | ⟨s, e, o1, o2, o3, o4, o5⟩
  · exact Or.inl (by rw [x.1]; exact O)
  · obtain ⟨p1, p2, p3⟩ := prog_out S Q (Or.inl o2)
    refine Or.inr ⟨s, e, by rw [x.1]; exact o1, o2, ?_, hk e o4 (by rw [o1]; simp), o5⟩
    rw [(x.2.1 s p1 p2 (by omega)).1]; exact o3
theorem pf_over (fu : Nat) (c : Int32) : pX9_perform_l32 E g (B + 132) q z (fu + 1) (-1) c h = some h := by
  rw [pX9_perform_l32, pX9_perform_b32]
  by_cases e : 1000000 ≤ c
  · rw [if_pos e]
  · rw [if_neg e, if_pos rfl]
/-- a turn that begins an INSTRUCTION -/
theorem pf_go (S : Sh B g) (R : RunC B q z g h) (P : PgC op g h pp π) (h30 : π.1 ≤ 30) (hk : k < π.1) (epp : hR h q 8 = some pp) (O : OpenS B g h k) {c : Nat} (hc : c < 1000000) (fu : Nat) : pX9_perform_l32 E g (B + 132) q z (fu + 1) (nI k) (nI c) h = pX9_perform_b83 E g (B + 132) q z (pX9_perform_l32 E g (B + 132) q z fu) (nI k) (nI c) (hR h (pp + 1) k) h := by
  rw [pX9_perform_l32, pX9_perform_b32, if_neg (show ¬ (1000000 : Int32) ≤ nI c from nI_ge (b := 1000000) hc (by decide)), if_neg (show ¬ nI k = -1 from fun w => by
    have := congrArg Int32.toInt w
    rw [nI_toInt (by omega), show (-1 : Int32).toInt = -1 from rfl] at this
    omega), w_lt, R.2.1, w_nn, w_tg R.2.2.2.1.1, w_lt, epp, w_nn, w_tg P.1, k_at P h30 hk, w_bd, w_lt]
  rcases O with O | ⟨s, e, o1, o2, o3, o4, o5⟩
  · rw [if_pos O]
  · rw [if_neg (by rw [o1]; simp), w_lt, o1, w_nn, w_tg o2, o3, if_pos (nI_lt o4 (by omega))]
/-- the class's step: begin, do, count -/
theorem pf_83 (K : EOK E b L xs op st bt aL aS aO) (S : Sh B g) (R : RunC B q z g h) {i : Nat} (I : IC op g h i f) (hf : f 0 < 27) (e5 : hI h q 5 = nI n) {h6 h' : CT} (b1 : pX10_beginInstr E g h z (nI k) i (nI n) = some h6) (I6 : IC op g h6 i f) {r : Int32} (ex : (if isEl (f 0) then pX9_doElements E g h6 (B + 132) (nI k) i else pX9_doAtOnce E g h6 (B + 132) (nI k) i) = some (r, h')) (kk : Int32 → Int32 → CT → Option CT) (c : Int32) :
    pX9_perform_b83 E g (B + 132) q z kk (nI k) c (some i) h = pX9_perform_b139 E g (B + 132) q z kk (nI k) c (some i) r h' := by
  have T60 := k_tag K hf
  have u4 := unN_lt (f 0)
  unfold pX9_perform_b83
  rw [if_neg (by simp), w_lt, R.2.2.1, w_lt, R.2.1, w_nn, w_tg R.2.2.2.1.1, w_nn, w_tg R.2.2.2.2.1.1, w_nn, e5, b1, w_bd, w_tg I6.1, w_lt, I6.2.1, w_nn, w_tg T60, k_unit K hf]
  by_cases ce : isEl (f 0)
  · rw [if_pos ce] at ex
    rw [if_pos ce, if_neg (show ¬ nI (unN (f 0)) = -1 from fun w => by
      have := congrArg Int32.toInt w
      rw [nI_toInt (by omega), show (-1 : Int32).toInt = -1 from rfl] at this
      omega), ex, w_bd2]
  · rw [if_neg ce] at ex
    rw [if_neg ce, if_pos rfl, ex, w_bd2]
theorem pf_fine (A : gT g z = 9) (e5 : hR h (B + 132) 5 = some z) (kk : Int32 → Int32 → CT → Option CT) {i c d : Nat} (e2 : hI h z 2 = nI d) : pX9_perform_b139 E g (B + 132) q z kk (nI k) (nI c) (some i) 1 h = bd2 (pX9_behind E g (sI h z 2 (nI (d + 1))) (B + 132) (nI k) i) fun x6 h4 => kk x6 (nI (c + 1)) h4 := by
  unfold pX9_perform_b139 pX9_perform_b159 pX9_perform_b179 pX9_perform_b180
  rw [w_lt, e5, w_nn, w_tg A, if_neg (by decide), w_nn, w_tg A, e2, nI_1, w_lt, if_neg (by decide), w_nn]
  simp only [w_lt, nI_1]
theorem pf_trap (A : gT g z = 9) (e5 : hR h (B + 132) 5 = some z) (kk : Int32 → Int32 → CT → Option CT) {i c d : Nat} (e2 : hI h z 2 = nI d) : pX9_perform_b139 E g (B + 132) q z kk (nI k) (nI c) (some i) 0 h = kk (-1) (nI (c + 1)) h := by
  unfold pX9_perform_b139 pX9_perform_b159 pX9_perform_b179 pX9_perform_b180
  rw [w_lt, e5, w_nn, w_tg A, if_pos rfl, w_nn, w_tg A, e2, Int32.add_zero, w_lt, if_pos rfl, w_lt, nI_1, sI_id e2]
theorem k_behind (K : EOK E b L xs op st bt aL aS aO) (S : Sh B g) {i : Nat} (I : IC op g h i f) (hf : f 0 < 27) : pX9_behind E g h (B + 132) (nI k) i = if f 0 = 25 then bd2 (pX9_beginStrip g h (B + 132) (nI k) i) fun x10 h8 => some (x10, h8) else if f 0 = 26 then some (-1, h) else some (nI (k + 1), h) := by
  have e30 : E.1 30 = .ref (op 25) := e_st K 25 (by decide)
  have e31 : E.1 31 = .ref (op 26) := e_st K 26 (by decide)
  have hf28 : f 0 < 28 := by omega
  unfold pX9_behind
  rw [w_tg (st_132 S), w_tg I.1, w_lt, e30, w_kR, I.2.1, w_lt, e31, w_kR, nI_1]
  simp only [eq_op K hf28 (show 25 < 28 by decide), eq_op K hf28 (show 26 < 28 by decide)]
/-- a turn: an INSTRUCTION but strip and stop -/
theorem pf_step (K : EOK E b L xs op st bt aL aS aO) (S : Sh B g) (Q : QZ B q z) (wf : WF π) (hk : k < π.1) (nb1 : 1 ≤ nb) (nb2 : nb ≤ 16) (y1 : 1 ≤ y) (y2 : y ≤ 12) {c : Nat} (hc : c < 10000) (X : RV B q z op g pp π nb y (300 * c) h hr F G) (O : OpenS B g h k) (h25 : π.2 k 0 ≠ 25) (h26 : π.2 k 0 ≠ 26) (fO : CT → Nat → Int32 → Int32 → Option CT) :
    (∃ h' hr' F' G', (∀ fu, pX9_perform_l32 E g (B + 132) q z (fu + 1) (nI k) (nI c) h = pX9_perform_l32 E g (B + 132) q z fu (nI (k + 1)) (nI (c + 1)) h') ∧ pX13_doOne g fO hr (B + 187) (nI k) = some hr' ∧ RV B q z op g pp π nb y (300 * (c + 1)) h' hr' F' G' ∧ NFr B q z h h' ∧ MFr B hr hr')
    ∨ ∃ h' hr', (∀ fu, pX9_perform_l32 E g (B + 132) q z (fu + 2) (nI k) (nI c) h = some h') ∧ pX13_doOne g fO hr (B + 187) (nI k) = some hr' ∧ EN B q z y (300 * (c + 1)) h' hr' ∧ hI hr' (B + 187) 40 = 1 ∧ NFr B q z h h' ∧ MFr B hr hr' := by
  have XX := X
  obtain ⟨XM, C, Ct, hF, hJ, hG, PC, PM, tz, epp⟩ := X
  have h30 := wf.1
  have R := XM.1
  have hf := (wf.fok hk).1
  obtain ⟨i, n, h6, i1, I, e5, b1, b2, I6, R6, res⟩ := one_both K S Q wf hk nb1 nb2 y1 y2 XX (by omega) h25 h26 fO
  have go : ∀ fu, pX9_perform_l32 E g (B + 132) q z (fu + 1) (nI k) (nI c) h = pX9_perform_b83 E g (B + 132) q z (pX9_perform_l32 E g (B + 132) q z fu) (nI k) (nI c) (some i) h := fun fu => by
    rw [pf_go S R PC h30 hk epp O (by omega) fu, i1]
  have A9 := R.2.2.2.2.1.1
  rcases res with ⟨h', hr', F', G', c1, c2, c3, c4, c5, c6, c7⟩ | ⟨h', hr', F', G', c1, c2, c3, c4, c5, c6, c7, c8, c9, c10, c11, c12⟩
  · left
    have eR : hR h' = hR h := c6.1
    have I' : IC op g (sI h' z 2 (nI (F' 0 2 + 1))) i (π.2 k) := by
      obtain ⟨p1, p2, p3⟩ := prog_out S Q (Or.inl I.1)
      exact I.keep (c6.2.1 i p1 p2 (by omega)).1 (by rw [c6.1])
    refine ⟨_, _, _, _, fun fu => ?_, c4, c5.mono (by omega), c6, c7⟩
    rw [go fu, pf_83 K S R I hf e5 b1 I6 c1, pf_fine A9 (by rw [eR]; exact R.2.2.1) _ c2, k_behind K S I' hf, if_neg h25, if_neg h26, w_bd2]
  · right
    have eR : hR h' = hR h := c11.1
    obtain ⟨w, u, t1, t2, t3, t4, t5, t6, t7, t8⟩ := c10
    refine ⟨h', hr', fun fu => ?_, c4, ⟨F', G', c5, c6, c7, fun a j => by have := c8 a j; omega, c9, c11.2.2.2.2.1, Or.inr ⟨k, by omega, w, u, t1, t2, t3, t4, t5, t6, t7, t8⟩⟩, t8, c11, c12⟩
    rw [show fu + 2 = (fu + 1) + 1 from rfl, go (fu + 1), pf_83 K S R I hf e5 b1 I6 c1, pf_trap A9 (by rw [eR]; exact R.2.2.1) _ c2, pf_over]
end TRN
