/-! one INSTRUCTION of a run, in both -/
section ONE
variable {B b L : Nat} {E : EC} {xs : Nat → Int32} {op st bt : Nat → Nat} {aL aS aO : Nat} {g : MT} {h h1 hr hr1 : CT} {q z p pp : Nat} {f : Nat → Nat} {π : Pg} {ik k n nb y t T : Nat} {F : Nat → Nat → Nat} {G G0 : Nat → Nat → Int32} {fO : CT → Nat → Int32 → Int32 → Option CT}
/-- what stands between two INSTRUCTIONS of a run -/
def RV (B q z : Nat) (op : Nat → Nat) (g : MT) (pp : Nat) (π : Pg) (nb y T : Nat) (h hr : CT) (F : Nat → Nat → Nat) (G : Nat → Nat → Int32) : Prop := MS B q z g nb y h hr ∧ TC z h F G ∧ TR B y hr F G ∧ (∀ a j, F a j ≤ T) ∧ (∀ b, F 6 b ≤ F 3 0 + 11) ∧ GOK G ∧ PgC op g h pp π ∧ PgM (hI hr (B + 192)) 0 π ∧ (hI h z 3 = 0 ∧ hI h z 4 = -1 ∧ hI h z 5 = -1) ∧ hR h q 8 = some pp
theorem no_prog : ∀ o, o < 205 → (13 ≤ o ∧ o ≤ 39) ∨ (130 ≤ o ∧ o ≤ 144) ∨ (145 ≤ o ∧ o ≤ 171) ∨ (176 ≤ o ∧ o ≤ 182) → (match stg[o]? with | some q => q.1 != 2 && q.1 != 6 && q.1 != 25 | none => false) = true := by decide +kernel
/-- cells of PROGRAMS are none that a run writes -/
theorem prog_out (S : Sh B g) (Q : QZ B q z) {a : Nat} (T : gT g a = 2 ∨ gT g a = 6 ∨ gT g a = 25) : (a < q ∨ q + 26 < a) ∧ (a < z ∨ z + 6 < a) ∧ (a < B + 130 ∨ B + 137 < a) := by
  by_cases c : (a < q ∨ q + 26 < a) ∧ (a < z ∨ z + 6 < a) ∧ (a < B + 130 ∨ B + 137 < a)
  · exact c
  · exfalso
    have hr : (13 ≤ a - B ∧ a - B ≤ 39) ∨ (130 ≤ a - B ∧ a - B ≤ 144) ∨ (145 ≤ a - B ∧ a - B ≤ 171) ∨ (176 ≤ a - B ∧ a - B ≤ 182) := by omega
    have k := no_prog (a - B) (by omega) hr
    split at k
    · rename_i w hw
      have e := (S.2 (a - B) w hw).1
      rw [show B + (a - B) = a by omega] at e
      rw [← e] at k
      rcases T with T | T | T
      · rw [T] at k; exact absurd k (by decide)
      · rw [T] at k; exact absurd k (by decide)
      · rw [T] at k; exact absurd k (by decide)
    · cases k
theorem PgC.kp (S : Sh B g) (Q : QZ B q z) (P : PgC op g h pp π) (eI : ∀ w, (w < q ∨ q + 26 < w) → (w < z ∨ z + 6 < w) → (w < B + 130 ∨ B + 137 < w) → hI h1 w = hI h w) (eR : ∀ x, x ≠ B + 132 → hR h1 x = hR h x) : PgC op g h1 pp π := by
  obtain ⟨p1, p2, p3, p4, p5, p6⟩ := P
  obtain ⟨o1, o2, o3⟩ := prog_out S Q (Or.inr (Or.inl p1))
  obtain ⟨o4, o5, o6⟩ := prog_out S Q (Or.inr (Or.inr p3))
  refine ⟨p1, by rw [eR pp (by omega)]; exact p2, p3, p4, by rw [eI pp o1 o2 o3]; exact p5, fun k hk => ?_⟩
  obtain ⟨i, i1, i2, i3, i4⟩ := p6 k hk
  obtain ⟨o7, o8, o9⟩ := prog_out S Q (Or.inl i2)
  exact ⟨i, by rw [eR _ (by omega)]; exact i1, i2, by rw [eR i (by omega)]; exact i3, fun w w1 w2 => by rw [eI i o7 o8 o9]; exact i4 w w1 w2⟩
theorem NFr.pg (x : NFr B q z h h1) (S : Sh B g) (Q : QZ B q z) (P : PgC op g h pp π) : PgC op g h1 pp π := P.kp S Q (fun w a b c => (x.2.1 w a b (by omega)).1) (fun w _ => by rw [x.1])
theorem MFr.pg (x : MFr B hr hr1) (hπ : π.1 ≤ 30) (P : PgM (hI hr (B + 192)) 0 π) : PgM (hI hr1 (B + 192)) 0 π := P.keep2 hπ (fun i i1 _ => x.2.2.2.2.1 i (by omega))
theorem WF.fok (w : WF π) (hk : k < π.1) : FOK (π.2 k) := by
  obtain ⟨w0, w1, w2, w3, w4, w5, w6, w7, w8, w9, w10, w11⟩ := w.2 k hk
  exact ⟨w0, w1, w2, w3, w4, w5, w6, w7, w8, w9, w10⟩
/-- the reference BEGINS it -/
theorem r_start (S : Sh B g) (p2 : PtR B (hR hr)) (Ct : TR B y hr F G) (hk : ik < 30) (M : IM B hr ik f) (hf : FOK f) (hn : n ≤ 16) (v0 : hI hr (B + 192) 0 = nI n) (hF : ∀ a j, F a j ≤ T) (hT : T + 200 < 2 ^ 30) :
    ∃ h14, RFr B hr h14 ∧ TR B y h14 (bgF F (bgT F f n)) (up2 (up2 G 1 ik (nI (bgT F f n))) 2 ik (-1)) ∧ pX13_doOne g fO hr (B + 187) (nI ik) = (if isEl (f 0) then refEl B g fO h14 ik (bgT F f n) f else if isFo (f 0) then bd (pX13_folds g h14 (B + 187) (nI ik) (nI (bgT F f n))) fun h32 => (pX13_doOne_b152 g fO (B + 187) (nI ik) (nI (f 0)) h32) else if f 0 = 22 then bd (pX13_counts g h14 (B + 187) (nI ik) (nI (bgT F f n))) fun h30 => (pX13_doOne_b152 g fO (B + 187) (nI ik) (nI (f 0)) h30) else if f 0 = 20 then bd (pX13_flips g h14 (B + 187) (nI (bgT F f n))) fun h28 => (pX13_doOne_b152 g fO (B + 187) (nI ik) (nI (f 0)) h28)
      else if f 0 = 0 then lt (hR h14 (B + 187) 19) fun r22 => (bd (pX13_at g h14 (B + 187) (nI ik) 4) fun x23 => (nn r22 fun a22 => (tg g a22 20 (ix (gL g a22) 0 (lt (sI h14 a22 (Int32.toNatClampNeg 0) x23) fun h27 => (pX13_doOne_b152 g fO (B + 187) (nI ik) (nI (f 0)) h27)))))) else if f 0 = 26 then lt (sI h14 (B + 187) 40 1) fun h21 => (pX13_doOne_b152 g fO (B + 187) (nI ik) (nI (f 0)) h21) else pX13_doOne_b152 g fO (B + 187) (nI ik) (nI (f 0)) h14) := by
  obtain ⟨m1, m2, m3, m4, m5, m6, m7, m8, m9, m10⟩ := kt_m (f 0) hf.1
  have bt := bgT_le (f := f) hF n
  obtain ⟨h5, b1, b2, b3⟩ := r_begins S Ct (t := bgT F f n) (T := T) bt.1 hF (by omega)
  have p5 : PtR B (hR h5) := by rw [b3.1]; exact p2
  have u4 := unN_lt (f 0)
  have q22 : (nI (f 0) = 22) = (f 0 = 22) := q_k (j := 22) hf.1 (by decide)
  have q20 : (nI (f 0) = 20) = (f 0 = 20) := q_k (j := 20) hf.1 (by decide)
  have q0 : (nI (f 0) = 0) = (f 0 = 0) := q_k (j := 0) hf.1 (by decide)
  have q26 : (nI (f 0) = 26) = (f 0 = 26) := q_k (j := 26) hf.1 (by decide)
  refine ⟨sI (sI h5 (B + 198) ik (nI (bgT F f n))) (B + 199) ik (-1), b3.tr (((RFr.rf B h5).a (by decide) (by decide)).a (by decide) (by decide)), b2.begun, ?_⟩
  unfold pX13_doOne
  rw [w_tg (st_187 S), (im_at S p2 hk M).1, w_bd, r_beginning S p2 Ct hk M hf hn v0 hF (by omega), w_bd, b1, w_bd, w_lt, pr_187_27 p5, w_nn, w_tg (st_198 S), sl_198 S, w_ix hk (by decide), nI_clamp (by omega), w_lt, w_lt, hR_sI, pr_187_28 p5, w_nn, w_tg (st_199 S), sl_199 S, w_ix hk (by decide), w_lt, m9]
  by_cases c : isEl (f 0)
  · rw [if_pos c, if_pos c, if_neg (nI_pos (by omega))]
    unfold refEl
    rw [nI_clamp (show ik < 2 ^ 31 by omega)]
  · rw [if_neg c, if_neg c, if_pos (by decide)]
    simp only [m8, ite_not, q22, q20, q0, q26]
theorem bgF_le (hF : ∀ a j, F a j ≤ T) (ht : t ≤ T) (a j : Nat) : bgF F t a j ≤ T + 1 := by
  have h0 := hF 0 0
  have h1 := hF a j
  unfold bgF up2
  split
  · omega
  · split <;> omega
theorem bgT_un (F : Nat → Nat → Nat) (n : Nat) (he : isEl (f 0)) : F 3 (unN (f 0)) ≤ bgT F f n := by
  unfold bgT
  rw [if_pos he]
  exact Nat.le_trans (Nat.le_trans (Nat.le_trans (Nat.le_max_right _ _) (Nat.le_max_left _ _)) (Nat.le_max_left _ _)) (Nat.le_max_left _ _)
/-- done, in both -/
theorem done_c (C : TC z h F G) : TC z (sI h z 2 (nI (F 0 2) + 1)) (up2 F 0 2 (F 0 2 + 1)) G := by
  rw [nI_1]
  exact C.o (by decide)
/-- an INSTRUCTION but strip and stop: done in both, or a TRAP in both -/
theorem one_both (K : EOK E b L xs op st bt aL aS aO) (S : Sh B g) (Q : QZ B q z) (wf : WF π) (hk : k < π.1) (nb1 : 1 ≤ nb) (nb2 : nb ≤ 16) (y1 : 1 ≤ y) (y2 : y ≤ 12) (X : RV B q z op g pp π nb y T h hr F G) (hT : T + 2000 < 2 ^ 30) (h25 : π.2 k 0 ≠ 25) (h26 : π.2 k 0 ≠ 26) (fO : CT → Nat → Int32 → Int32 → Option CT) :
    ∃ i n h6, hR h (pp + 1) k = some i ∧ IC op g h i (π.2 k) ∧ hI h q 5 = nI n ∧ pX10_beginInstr E g h z (nI k) i (nI n) = some h6 ∧ TFr z h h6 ∧ IC op g h6 i (π.2 k) ∧ RunC B q z g h6 ∧
      ((∃ h' hr' F' G', (if isEl (π.2 k 0) then pX9_doElements E g h6 (B + 132) (nI k) i else pX9_doAtOnce E g h6 (B + 132) (nI k) i) = some (1, h') ∧ hI h' z 2 = nI (F' 0 2) ∧ TimA g (hR h') z ∧ pX13_doOne g fO hr (B + 187) (nI k) = some (sI hr' (B + 187) 36 (nI (F' 0 2 + 1))) ∧ RV B q z op g pp π nb y (T + 300) (sI h' z 2 (nI (F' 0 2 + 1))) (sI hr' (B + 187) 36 (nI (F' 0 2 + 1))) (up2 F' 0 2 (F' 0 2 + 1)) G' ∧ NFr B q z h (sI h' z 2 (nI (F' 0 2 + 1))) ∧ MFr B hr (sI hr' (B + 187) 36 (nI (F' 0 2 + 1))))
      ∨ ∃ h' hr' F' G', (if isEl (π.2 k 0) then pX9_doElements E g h6 (B + 132) (nI k) i else pX9_doAtOnce E g h6 (B + 132) (nI k) i) = some (0, h') ∧ hI h' z 2 = nI (F' 0 2) ∧ TimA g (hR h') z ∧ pX13_doOne g fO hr (B + 187) (nI k) = some hr' ∧ DM B q h' hr' ∧ TC z h' F' G' ∧ TR B y hr' F' G' ∧ (∀ a j, F' a j ≤ T + 300) ∧ GOK G' ∧ TrapF B z h' hr' k ∧ NFr B q z h h' ∧ MFr B hr hr') := by
  obtain ⟨XM, C, Ct, hF, hJ, hG, PC, PM, tz, epp⟩ := X
  have XX := XM
  obtain ⟨R, p2, D, ⟨e6, e7⟩, ⟨v1, v2⟩, eb, tr0, ov0⟩ := XM
  have h30 := wf.1
  have hk30 : k < 30 := by omega
  have hf := wf.fok hk
  obtain ⟨i, i1, i2, i3, i4⟩ := PC.2.2.2.2.2 k hk
  have I : IC op g h i (π.2 k) := ⟨i2, i3, i4⟩
  have M : IM B hr k (π.2 k) := PM.im hk
  obtain ⟨⟨n, hn, n1, n2⟩, -⟩ := D
  have D : DM B q h hr := R.2.2.2.2.2.2 |> fun _ => XX.2.2.1
  have hzi := ic_outz S Q I.1
  have bt := bgT_le (f := π.2 k) hF n
  obtain ⟨h6, b1, b2, b3⟩ := t_begin K R.2.2.2.2.1 C (n := n) (T := T) I hzi hf hk30 hn hF (by omega)
  obtain ⟨h14, s1, s2, s3⟩ := r_start (fO := fO) (n := n) S p2 Ct hk30 M hf hn n2 hF (by omega)
  have R6 := b3.run Q R
  have I6 := I.fr b3 hzi
  have nf6 := b3.nf Q R.2.2.2.2.2.2
  have X14 : SP B q z op g i (π.2 k) k n nb y h6 h14 := ((XX.sp I M n1 n2).t S Q b3).r s1
  have hF1 : ∀ a j, bgF F (bgT F (π.2 k) n) a j ≤ T + 1 := bgF_le hF bt.1
  have tz6 : ∀ j, j = 3 ∨ j = 4 ∨ j = 5 → hI h6 z j = hI h z j := b3.2.2
  have g8 : bgF F (bgT F (π.2 k) n) 0 8 = bgT F (π.2 k) n + 1 := by
    unfold bgF
    rw [up2_n (by omega), up2_s]
  have g63 : ∀ a j, a ≠ 0 → bgF F (bgT F (π.2 k) n) a j = F a j := fun a j ha => by
    unfold bgF
    rw [up2_n (fun w => ha w.1), up2_n (fun w => ha w.1)]
  have t30 : bgT F (π.2 k) n < 2 ^ 30 := by omega
  have hu0 : isMm (π.2 k 0) → F 3 0 ≤ bgT F (π.2 k) n := fun hm => by
    have un0 : unN (π.2 k 0) = 0 := by unfold unN; rw [if_pos hm]
    have := bgT_un (f := π.2 k) F n (by omega)
    rw [un0] at this
    exact this
  have hG1 : GOK (up2 (up2 G 1 k (nI (bgT F (π.2 k) n))) 2 k (-1)) := hG.beg t30
  have G1 : up2 (up2 G 1 k (nI (bgT F (π.2 k) n))) 2 k (-1) 1 k = nI (bgT F (π.2 k) n) := by rw [up2_n (fun w => absurd w.1 (by decide)), up2_s]
  have G2 : up2 (up2 G 1 k (nI (bgT F (π.2 k) n))) 2 k (-1) 2 k = -1 := up2_s _ _ _ _
  refine ⟨i, n, h6, i1, I, n1, b1, b3, I6, R6, ?_⟩
  rw [s3]
  generalize bgT F (π.2 k) n = t at *
  generalize up2 (up2 G 1 k (nI t)) 2 k (-1) = G0 at *
  -- done
  have fin : ∀ h' hr' F' G', MS B q z g nb y h' hr' → TC z h' F' G' → TR B y hr' F' G' → (∀ a j, F' a j ≤ T + 299) → (∀ b, F' 6 b ≤ F' 3 0 + 11) → GOK G' → NFr B q z h6 h' → MFr B h14 hr' → (∀ j, j = 3 ∨ j = 4 ∨ j = 5 → hI h' z j = hI h6 z j) →
      RV B q z op g pp π nb y (T + 300) (sI h' z 2 (nI (F' 0 2 + 1))) (sI hr' (B + 187) 36 (nI (F' 0 2 + 1))) (up2 F' 0 2 (F' 0 2 + 1)) G' ∧ NFr B q z h (sI h' z 2 (nI (F' 0 2 + 1))) ∧ MFr B hr (sI hr' (B + 187) 36 (nI (F' 0 2 + 1))) := fun h' hr' F' G' Y1 Y2 Y3 Y4 Y5 Y6 Y7 Y8 Y9 => by
    have fr : TFr z h' (sI h' z 2 (nI (F' 0 2 + 1))) := (TFr.rf z h').o (by decide)
    have fr' : RFr B hr' (sI hr' (B + 187) 36 (nI (F' 0 2 + 1))) := (RFr.rf B hr').o (by decide)
    have nf : NFr B q z h (sI h' z 2 (nI (F' 0 2 + 1))) := nf6.tr (Y7.tr (fr.nf Q Y1.1.2.2.2.2.2.2))
    have mf : MFr B hr (sI hr' (B + 187) 36 (nI (F' 0 2 + 1))) := s1.m.tr (Y8.tr fr'.m)
    obtain ⟨Z1, Z2, Z3, ⟨Z4, Z5⟩, ⟨Z6, Z7⟩, Z8, Z9, Z10⟩ := Y1
    refine ⟨⟨⟨fr.run Q Z1, by rw [fr'.1]; exact Z2, fr'.dm (fr.dm Q Z3), ⟨?_, ?_⟩, ⟨?_, ?_⟩, ?_, ?_, ?_⟩, Y2.o (by decide), Y3.o (j := 2) (by decide), fun a j => ?_, fun b => ?_, Y6, nf.pg S Q PC, mf.pg h30 PM, ⟨?_, ?_, ?_⟩, ?_⟩, nf, mf⟩
    · rw [(fr.2.1 q (by omega)).1]; exact Z4
    · rw [(fr.2.1 q (by omega)).1]; exact Z5
    · rw [(fr'.2.1 (B + 192) (by omega) (by omega)).1]; exact Z6
    · rw [(fr'.2.1 (B + 192) (by omega) (by omega)).1]; exact Z7
    · rw [fr'.2.2.1 33 (by decide) (by decide), fr.br Q]; exact Z8
    · rw [fr'.2.2.1 37 (by decide) (by decide)]; exact Z9
    · rw [fr'.2.2.1 40 (by decide) (by decide)]; exact Z10
    · have a1 := Y4 0 2
      have a2 := Y4 a j
      unfold up2
      split <;> omega
    · rw [up2_n (by omega), up2_n (by omega)]; exact Y5 b
    · rw [fr.2.2 3 (by decide), Y9 3 (by decide), tz6 3 (by decide)]; exact tz.1
    · rw [fr.2.2 4 (by decide), Y9 4 (by decide), tz6 4 (by decide)]; exact tz.2.1
    · rw [fr.2.2 5 (by decide), Y9 5 (by decide), tz6 5 (by decide)]; exact tz.2.2
    · rw [nf.1]; exact epp
  by_cases ce : isEl (π.2 k 0)
  · rw [if_pos ce, if_pos ce]
    rcases doEls_both (F := bgF F t) (G0 := G0) (t := t) K S Q X14 hf ce hk30 hn nb1 nb2 y1 y2 (T := T + 1) b2 s2 g8 hF1 (by omega) (fun b => by rw [g63 6 b (by decide), g63 3 0 (by decide)]; exact hJ b) (fun hm => by rw [g63 3 0 (by decide)]; exact hu0 hm) hG1 G1 G2 fO with ⟨h', hr', F', G', c1, c2, c3, c4, c5, c6, c7, c8, c9, c10, c11, c12⟩ | ⟨h', hr', F', G', c1, c2, c3, c4, c5, c6, c7, c8, c9, c10⟩
    · left
      exact ⟨h', hr', F', G', c1, c4.1 2 (by decide), c3.1.2.2.2.2.1, c2, fin h' hr' F' G' c3.ms c4 c5 (fun a j => by have := c7 a j; omega) c8 c9 c10 c11 c12⟩
    · right
      exact ⟨h', hr', F', G', c1, c4.1 2 (by decide), by rw [c9.1]; exact R6.2.2.2.2.1, c2, c3, c4, c5, fun a j => by have := c6 a j; omega, c7, c8, nf6.tr c9, s1.m.tr c10⟩
  · rw [if_neg ce, if_neg ce]
    have b152 : ∀ h, pX13_doOne_b152 g fO (B + 187) (nI k) (nI (π.2 k 0)) h = some (if hI h (B + 187) 37 = 0 then sI h (B + 187) 36 (hI h (B + 187) 36 + 1) else h) := fun h => one_b152 S hf.1 h25 k
    by_cases cf : isFo (π.2 k 0)
    · rw [if_pos cf]
      rcases fold_both2 (F := bgF F t) (G := G0) (t := t) (T := T + 1) (n := n) K S Q X14.ms I6 X14.2.2.2.2.1 hf hk30 cf hn X14.2.2.2.2.2.1.1 X14.2.2.2.2.2.2.1.1 b2 s2 hF1 (by omega) g8 with ⟨h', hr', e, e48, c1, c2, c3, c4, c5, c6, c7, c8⟩ | ⟨h', hr', c1, c2, c3, c4, c5, c6, c7, c8⟩
      · left
        rw [c2, w_bd, b152, if_pos c3.2.2.2.2.2.2.1, show hI hr' (B + 187) 36 = nI (enF (foF (bgF F t) (π.2 k 1) n t) e 0 2) from c5.1 2 (by decide), nI_1]
        refine ⟨h', hr', _, _, c1, c4.1 2 (by decide), c3.1.2.2.2.2.1, rfl, fin h' hr' _ _ c3 c4 c5 (fun a j => ?_) (fun b => ?_) (hG1.e t30 G1 (Or.inr ⟨e, by omega, rfl⟩)) c6 c7 c8⟩
        · have a1 := foF_le (d := π.2 k 1) (n := n) (t := t) hF1 (by omega) a j
          have a2 := foF_le (d := π.2 k 1) (n := n) (t := t) hF1 (by omega) 0 0
          unfold enF
          unfold up2
          split
          · omega
          · split <;> omega
        · unfold enF
          rw [up2_n (by omega), up2_n (by omega), up2_n (by omega), up2_n (by omega), foF_n (by decide), foF_n (by decide), g63 6 b (by decide), g63 3 0 (by decide)]; exact hJ b
      · right
        have TF := c6
        obtain ⟨c, w, t1, t2, t3, t4, t5, t6⟩ := c6
        rw [c2, w_bd, b152, if_neg (by rw [t5]; exact nI_ne0 (by omega) (by omega))]
        exact ⟨h', hr', bgF F t, G0, c1, c4.1 2 (by decide), by rw [c7.1]; exact R6.2.2.2.2.1, rfl, c3, c4, c5, fun a j => by have := hF1 a j; omega, hG1, TF, nf6.tr c7, s1.m.tr c8⟩
    · rw [if_neg cf]
      left
      by_cases c22 : π.2 k 0 = 22
      · rw [if_pos c22]
        obtain ⟨h', hr', c1, c2, c3, c4, c5, c6, c7, c8⟩ := count_both (F := bgF F t) (G := G0) (t := t) (T := T + 1) (n := n) K S Q X14.ms I6 X14.2.2.2.2.1 hf hk30 c22 hn X14.2.2.2.2.2.1.1 X14.2.2.2.2.2.2.1.1 b2 s2 hF1 (by omega) g8
        rw [c2, w_bd, b152, if_pos c3.2.2.2.2.2.2.1, show hI hr' (B + 187) 36 = nI (enF (up2 (bgF F t) 0 12 (max (bgF F t 0 12) t)) (t + 1) 0 2) from c5.1 2 (by decide), nI_1]
        refine ⟨h', hr', _, _, c1, c4.1 2 (by decide), c3.1.2.2.2.2.1, rfl, fin h' hr' _ _ c3 c4 c5 (fun a j => ?_) (fun b => ?_) (hG1.e t30 G1 (Or.inr ⟨t + 1, by omega, rfl⟩)) c6 c7 c8⟩
        · have a1 := hF1 a j
          have a2 := hF1 0 0
          have a3 := hF1 0 12
          unfold enF
          rw [up2_n (show ¬ ((0 : Nat) = 0 ∧ (0 : Nat) = 12) by omega)]
          unfold up2
          split
          · omega
          · split
            · omega
            · split <;> omega
        · unfold enF
          rw [up2_n (by omega), up2_n (by omega), up2_n (by omega), up2_n (by omega), up2_n (by omega), up2_n (by omega), g63 6 b (by decide), g63 3 0 (by decide)]; exact hJ b
      · rw [if_neg c22]
        by_cases c20 : π.2 k 0 = 20
        · rw [if_pos c20]
          obtain ⟨h', hr', c1, c2, c3, c4, c5, c6, c7, c8⟩ := flip_both (F := bgF F t) (G := G0) (t := t) (T := T + 1) (n := n) K S Q X14.ms I6 X14.2.2.2.2.1 hf hk30 c20 hn X14.2.2.2.2.2.1.1 X14.2.2.2.2.2.2.1.1 b2 s2 hF1 (by omega) g8
          rw [c2, w_bd, b152, if_pos c3.2.2.2.2.2.2.1, show hI hr' (B + 187) 36 = nI (up2 (up2 (up2 (bgF F t) 0 12 (max (bgF F t 0 12) t)) 0 11 (t + 1)) 0 0 (max (bgF F t 0 0) (t + 1)) 0 2) from c5.1 2 (by decide), nI_1]
          refine ⟨h', hr', _, _, c1, c4.1 2 (by decide), c3.1.2.2.2.2.1, rfl, fin h' hr' _ _ c3 c4 c5 (fun a j => ?_) (fun b => ?_) hG1 c6 c7 c8⟩
          · have a1 := hF1 a j
            have a2 := hF1 0 0
            have a3 := hF1 0 12
            unfold up2
            split
            · omega
            · split
              · omega
              · split <;> omega
          · rw [up2_n (by omega), up2_n (by omega), up2_n (by omega), up2_n (by omega), up2_n (by omega), up2_n (by omega), g63 6 b (by decide), g63 3 0 (by decide)]; exact hJ b
        · rw [if_neg c20]
          have c0 : π.2 k 0 = 0 := by have := hf.1; omega
          rw [if_pos c0]
          obtain ⟨h', hr', c1, c2, c3, c4, c5, c6, c7, c8⟩ := setvl_both (F := bgF F t) (G := G0) K S Q X14.ms I6 X14.2.2.2.2.1 hf hk30 c0 b2 s2
          have p14 : PtR B (hR h14) := X14.2.1
          have a4 := (im_at S p14 hk30 X14.2.2.2.2.1).2.2.2.2.1
          rw [w_lt, pr_187_19 p14, a4, w_bd, w_nn, w_tg (st_192 S), sl_192 S, w_ixl (show 0 < 1476 by decide) (by decide), w_lt] at c2 ⊢
          cases c2
          rw [b152, if_pos c3.2.2.2.2.2.2.1, show hI (sI h14 (B + 192) (Int32.toNatClampNeg 0) (nI (if π.2 k 0 = 0 ∨ π.2 k 0 = 25 then π.2 k 7 else π.2 k 5))) (B + 187) 36 = nI (bgF F t 0 2) from c5.1 2 (by decide), nI_1]
          exact ⟨h', _, _, _, c1, c4.1 2 (by decide), c3.1.2.2.2.2.1, rfl, fin h' _ _ _ c3 c4 c5 (fun a j => by have := hF1 a j; omega) (fun b => by rw [g63 6 b (by decide), g63 3 0 (by decide)]; exact hJ b) hG1 c6 c7 c8⟩
end ONE
