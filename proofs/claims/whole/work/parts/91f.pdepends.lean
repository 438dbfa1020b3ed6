/-! depends: both tell the same of two INSTRUCTIONS -/
section DEP
variable {B b L : Nat} {E : EC} {xs : Nat → Int32} {op st bt : Nat → Nat} {aL aS aO : Nat} {g : MT} {hc hr : CT} {p : Nat} {π : Pg}
theorem k_at (P : PgC op g hc p π) (h30 : π.1 ≤ 30) {k : Nat} (hk : k < π.1) : pX7_at g hc p (nI k) = some (hR hc (p + 1) k) := by
  have e30 : (Int32.ofNat (gL g (p + 1))) = nI 30 := by rw [P.2.2.2.1]; rfl
  unfold pX7_at
  rw [w_tg P.1, if_neg (nI_pos (by omega)), P.2.2.2.2.1, if_neg (nI_ge hk (by omega)), w_lt, P.2.1, w_nn, w_tg P.2.2.1, e30, if_neg (nI_ge (by omega) (by decide)), w_lt, w_nn, w_tg P.2.2.1, P.2.2.2.1, w_ix (by omega) (by decide), nI_clamp (by omega), w_lt]
theorem k_atN (P : PgC op g hc p π) (h30 : π.1 ≤ 30) {k : Nat} (hk : π.1 ≤ k) (hk2 : k < 2 ^ 31) : pX7_at g hc p (nI k) = some none := by
  unfold pX7_at
  rw [w_tg P.1, if_neg (nI_pos hk2), P.2.2.2.2.1, if_pos (nI_le hk hk2)]
theorem m_kind (S : Sh B g) (p2 : PtR B (hR hr)) (M : PgM (hI hr (B + 192)) 0 π) (h30 : π.1 ≤ 30) {k : Nat} (hk : k < π.1) : pX13_at g hr (B + 187) (nI k) 0 = some (nI (π.2 k 0)) := by
  rw [show (0 : Int32) = nI 0 from rfl, m_at S p2 (by omega) (by decide), ← (M.2 k hk).1, show 6 + 8 * k + 0 = 0 + 6 + 8 * k by omega]
def usesP (π : Pg) (k : Nat) : Int32 := usesC (π.2 k 0) (nI (π.2 k 1)) (nI (π.2 k 2)) (nI (π.2 k 3)) (nI (π.2 k 4)) (nI (π.2 k 8))
def chgP (π : Pg) (k : Nat) : Int32 := changesC (π.2 k 0) (nI (π.2 k 1)) (nI (π.2 k 4))
def isBar (k : Nat) : Prop := k = 25 ∨ k = 26
def tie (a v : Int32) : Int32 := if a = 0 then 0 else v
def depP (π : Pg) (j k : Nat) : Int32 := if π.2 j 0 = 25 ∨ π.2 j 0 = 26 ∨ π.2 k 0 = 25 ∨ π.2 k 0 = 26 then 7 else (tie (chgP π j &&& usesP π k) 1 ||| tie (usesP π j &&& chgP π k) 2) ||| tie (chgP π j &&& chgP π k) 4
theorem k_steers (K : EOK E b L xs op st bt aL aS aO) {k : Nat} (hk : k < 27) : pX5_steers E g hc (op k) = some (if k = 25 ∨ k = 26 then 1 else 0) := by
  have e30 : E.1 30 = .ref (op 25) := K.1.2.2.2.2.2.1 25 (by decide)
  have e31 : E.1 31 = .ref (op 26) := K.1.2.2.2.2.2.1 26 (by decide)
  have e32 : E.1 32 = .ref (op 27) := K.1.2.2.2.2.2.1 27 (by decide)
  unfold pX5_steers pX5_steers_b21
  rw [e30, e31, e32, w_kR, w_kR, w_kR]
  by_cases c : k = 25
  · subst c; rw [if_pos rfl, if_pos (Or.inl rfl)]
  · rw [if_neg (fun z => c (op_inj K (by omega) (by decide) (Option.some.inj z)))]
    by_cases d : k = 26
    · subst d; rw [if_pos rfl, if_pos (Or.inr rfl)]
    · rw [if_neg (fun z => d (op_inj K (by omega) (by decide) (Option.some.inj z))), if_neg (fun z => absurd (op_inj K (by omega) (by decide) (Option.some.inj z)) (by omega)), if_neg (by omega)]
theorem m_isBar (S : Sh B g) (p2 : PtR B (hR hr)) (M : PgM (hI hr (B + 192)) 0 π) (wf : WF π) {k : Nat} (hk : k < π.1) : pX13_isBar g hr (B + 187) (nI k) = some (if π.2 k 0 = 25 ∨ π.2 k 0 = 26 then 1 else 0) := by
  have h27 := (wf.2 k hk).1
  unfold pX13_isBar pX13_isBar_b22
  rw [w_tg (st_187 S), m_kind S p2 M wf.1 hk, w_bd]
  have q : ∀ j, j < 2 ^ 31 → (nI (π.2 k 0) = nI j) = (π.2 k 0 = j) := fun j hj => propext (nI_eq (by omega) hj)
  have q25 : (nI (π.2 k 0) = 25) = (π.2 k 0 = 25) := q 25 (by decide)
  have q26 : (nI (π.2 k 0) = 26) = (π.2 k 0 = 26) := q 26 (by decide)
  simp only [q25, q26, w_bd]
  by_cases c : π.2 k 0 = 25
  · rw [if_pos c, if_pos (Or.inl c)]
  · by_cases d : π.2 k 0 = 26
    · rw [if_neg c, if_pos d, if_pos (Or.inr d)]
    · rw [if_neg c, if_neg d, if_neg (fun z => z.elim c d)]
theorem k_uses (K : EOK E b L xs op st bt aL aS aO) (P : PgC op g hc p π) (wf : WF π) {k i : Nat} (hk : k < π.1) (hi : hR hc (p + 1) k = some i) : gT g i = 2 ∧ hR hc i 0 = some (op (π.2 k 0)) ∧ pX2_uses E g hc i = some (usesP π k) ∧ pX2_changes E g hc i = some (chgP π k) := by
  obtain ⟨i', h1, h2, h3, h4⟩ := P.2.2.2.2.2 k hk
  rw [hi] at h1
  cases h1
  have h27 := (wf.2 k hk).1
  refine ⟨h2, h3, ?_, ?_⟩
  · rw [c_uses K h2 h3 (by omega), h4 1 (by decide) (by decide), h4 2 (by decide) (by decide), h4 3 (by decide) (by decide), h4 4 (by decide) (by decide), h4 8 (by decide) (by decide)]; rfl
  · rw [c_changes K h2 h3 (by omega), h4 1 (by decide) (by decide), h4 4 (by decide) (by decide)]; rfl
theorem m_uses (S : Sh B g) (p2 : PtR B (hR hr)) (M : PgM (hI hr (B + 192)) 0 π) (wf : WF π) {k : Nat} (hk : k < π.1) : pX13_readSet g hr (B + 187) (nI k) = some (usesP π k) ∧ pX13_writeSet g hr (B + 187) (nI k) = some (chgP π k) := by
  obtain ⟨w0, w1, w2, w3, w4, w5, w6, w7, w8, w9, w10, w11⟩ := wf.2 k hk
  obtain ⟨a0, a1, a2, a3, a4, a5, a6, a7⟩ := M.2 k hk
  have ea : ∀ f, 0 + (6 + f) + 8 * k = 6 + 8 * k + f := fun f => by omega
  have h30 := wf.1
  constructor
  · have h := m_reads (h := hr) S p2 (i := k) (by omega) w0 (d := nI (π.2 k 1)) (a := nI (π.2 k 2)) (c := nI (π.2 k 3)) (s := nI (π.2 k 4)) (m := decide (π.2 k 8 = 1)) (by rw [← ea]; exact a0) (by rw [← ea]; exact a1) (by rw [← ea]; exact a2) (by rw [← ea]; exact a3) (fun z => by rw [← ea]; exact a5.trans (by rw [if_neg (by omega)])) (by
      rw [← ea]
      refine a6.trans ?_
      rcases (by omega : π.2 k 8 = 0 ∨ π.2 k 8 = 1) with z | z
      · rw [z]; rfl
      · rw [z]; rfl)
    rw [h, sets_same _ _ _ _ w0]
    unfold usesP
    congr 2
    rcases (by omega : π.2 k 8 = 0 ∨ π.2 k 8 = 1) with z | z
    · rw [z]; rfl
    · rw [z]; rfl
  · exact m_writes (h := hr) S p2 (i := k) (by omega) w0 (d := nI (π.2 k 1)) (s := nI (π.2 k 4)) (by rw [← ea]; exact a0) (by rw [← ea]; exact a1) (fun z1 z2 => by rw [← ea]; exact a5.trans (by rw [if_neg (by omega)]))
theorem k_ties (K : EOK E b L xs op st bt aL aS aO) (P : PgC op g hc p π) (wf : WF π) {j k : Nat} (hj : j < π.1) (hk : k < π.1) : pX7_ties E g hc p (nI j) (nI k) = some (depP π j k) := by
  obtain ⟨i1, x1, -⟩ := P.2.2.2.2.2 j hj
  obtain ⟨i2, y1, -⟩ := P.2.2.2.2.2 k hk
  obtain ⟨x2, x3, x4, x5⟩ := k_uses K P wf hj x1
  obtain ⟨y2, y3, y4, y5⟩ := k_uses K P wf hk y1
  have hj27 := (wf.2 j hj).1
  have hk27 := (wf.2 k hk).1
  have T1 := (K.2.1 (π.2 j 0) (by omega)).1
  have T2 := (K.2.1 (π.2 k 0) (by omega)).1
  have b82 : ∀ s0 s1, pX7_ties_b82 E g hc p (nI j) (nI k) (some i1) (some i2) s0 s1 = some ((s0 ||| s1) ||| tie (chgP π j &&& chgP π k) 4) := fun s0 s1 => by
    unfold pX7_ties_b82 tie
    simp only [w_nn, w_tg x2, w_tg y2, x5, y5, w_bd]
    by_cases c : chgP π j &&& chgP π k = 0
    · rw [if_pos c, if_pos c]
    · rw [if_neg c, if_neg c]
  have b64 : ∀ s0, pX7_ties_b64 E g hc p (nI j) (nI k) (some i1) (some i2) s0 = some ((s0 ||| tie (usesP π j &&& chgP π k) 2) ||| tie (chgP π j &&& chgP π k) 4) := fun s0 => by
    unfold pX7_ties_b64
    simp only [w_nn, w_tg x2, w_tg y2, x4, y5, w_bd, b82]
    unfold tie
    by_cases c : usesP π j &&& chgP π k = 0
    · simp only [if_pos c]
    · simp only [if_neg c]
  unfold pX7_ties
  simp only [w_tg P.1, k_at P wf.1 hj, k_at P wf.1 hk, w_bd, x1, y1, w_nn, w_tg x2, w_tg y2, w_lt, x3, y3, w_tg T1, w_tg T2, k_steers K hj27, k_steers K hk27, x5, y4, b64]
  rw [if_neg (by simp), if_neg (by simp)]
  unfold depP
  by_cases c : π.2 j 0 = 25 ∨ π.2 j 0 = 26
  · rw [if_pos c, if_neg (by decide), if_pos (show (π.2 j 0 = 25 ∨ π.2 j 0 = 26 ∨ π.2 k 0 = 25 ∨ π.2 k 0 = 26) by omega)]
  · rw [if_neg c, if_pos rfl]
    by_cases d : π.2 k 0 = 25 ∨ π.2 k 0 = 26
    · rw [if_pos d, if_neg (by decide), if_pos (show (π.2 j 0 = 25 ∨ π.2 j 0 = 26 ∨ π.2 k 0 = 25 ∨ π.2 k 0 = 26) by omega)]
    · rw [if_neg d, if_pos rfl, if_neg (show ¬ (π.2 j 0 = 25 ∨ π.2 j 0 = 26 ∨ π.2 k 0 = 25 ∨ π.2 k 0 = 26) by omega)]
      unfold tie
      by_cases e : chgP π j &&& usesP π k = 0
      · simp only [if_pos e]
      · simp only [if_neg e]
theorem tie_c (a v : Int32) : tie a v = 0 ∨ tie a v = v := by
  unfold tie
  by_cases c : a = 0
  · exact Or.inl (if_pos c)
  · exact Or.inr (if_neg c)
theorem m_dependsOf (S : Sh B g) (p2 : PtR B (hR hr)) (M : PgM (hI hr (B + 192)) 0 π) (wf : WF π) {j k : Nat} (hj : j < π.1) (hk : k < π.1) : pX13_dependsOf g hr (B + 187) (nI j) (nI k) = some (depP π j k) := by
  obtain ⟨x1, x2⟩ := m_uses S p2 M wf hj
  obtain ⟨y1, y2⟩ := m_uses S p2 M wf hk
  have b59 : ∀ s0 s1, pX13_dependsOf_b59 g hr (B + 187) (nI j) (nI k) s0 s1 = some ((s0 + s1) + tie (chgP π j &&& chgP π k) 4) := fun s0 s1 => by
    unfold pX13_dependsOf_b59 tie
    simp only [x2, y2, w_bd, w_lt]
    by_cases c : chgP π j &&& chgP π k = 0
    · rw [if_pos c, if_pos c]
    · rw [if_neg c, if_neg c]
  have b38 : ∀ s0, pX13_dependsOf_b38 g hr (B + 187) (nI j) (nI k) s0 = some ((s0 + tie (usesP π j &&& chgP π k) 2) + tie (chgP π j &&& chgP π k) 4) := fun s0 => by
    unfold pX13_dependsOf_b38
    simp only [x1, y2, w_bd, b59]
    unfold tie
    by_cases c : usesP π j &&& chgP π k = 0
    · simp only [if_pos c]
    · simp only [if_neg c]
  unfold pX13_dependsOf
  simp only [w_tg (st_187 S), m_isBar S p2 M wf hj, m_isBar S p2 M wf hk, w_bd, x2, y1, b38]
  unfold depP
  by_cases c : π.2 j 0 = 25 ∨ π.2 j 0 = 26
  · rw [if_pos c, if_neg (by decide), if_pos (show (π.2 j 0 = 25 ∨ π.2 j 0 = 26 ∨ π.2 k 0 = 25 ∨ π.2 k 0 = 26) by omega)]
  · rw [if_neg c, if_pos rfl]
    by_cases d : π.2 k 0 = 25 ∨ π.2 k 0 = 26
    · rw [if_pos d, if_neg (by decide), if_pos (show (π.2 j 0 = 25 ∨ π.2 j 0 = 26 ∨ π.2 k 0 = 25 ∨ π.2 k 0 = 26) by omega)]
    · rw [if_neg d, if_pos rfl, if_neg (show ¬ (π.2 j 0 = 25 ∨ π.2 j 0 = 26 ∨ π.2 k 0 = 25 ∨ π.2 k 0 = 26) by omega)]
      have l1 : (if (chgP π j &&& usesP π k) = 0 then some (((0 : Int32) + tie (usesP π j &&& chgP π k) 2) + tie (chgP π j &&& chgP π k) 4) else some ((1 + tie (usesP π j &&& chgP π k) 2) + tie (chgP π j &&& chgP π k) 4)) = some ((tie (chgP π j &&& usesP π k) 1 + tie (usesP π j &&& chgP π k) 2) + tie (chgP π j &&& chgP π k) 4) := by
        unfold tie
        by_cases e : chgP π j &&& usesP π k = 0
        · simp only [if_pos e]
        · simp only [if_neg e]
      rw [l1]
      congr 1
      rcases tie_c (chgP π j &&& usesP π k) 1 with e | e <;> rcases tie_c (usesP π j &&& chgP π k) 2 with f | f <;> rcases tie_c (chgP π j &&& chgP π k) 4 with h | h <;> rw [e, f, h] <;> decide
theorem C_depends (K : EOK E b L xs op st bt aL aS aO) : K_depends B E op := by
  intro a c g hc hr H
  have S := H.1
  have p1 := H.2.1
  have p2 := H.2.2.1
  have hm2 : MacR B op g hc 13 (sI (sI hr (B + 187) 1 0) (B + 187) 0 0) 0 := MacR.keep (hr := hr) (hr' := sI (sI hr (B + 187) 1 0) (B + 187) 0 0) S (W := []) (OfC.rf hc) rfl (by omega) rfl (by rw [hI_sI, if_neg (by omega), hI_sI, if_neg (by omega)]) rfl H.2.2.2.2.2.2.2.1
  have p2' : PtR B (hR (sI (sI hr (B + 187) 1 0) (B + 187) 0 0)) := p2
  obtain ⟨p, π, mp, mn, wf, hC, hM, ha⟩ := instr_trouble S p1 p2' hm2 a
  obtain ⟨p', π', mp', mn', wf', hC', hM', hcc⟩ := instr_trouble S p1 p2' hm2 c
  rw [mp] at mp'
  cases mp'
  have n1 : ¬ (1 : Int32) = 0 := by decide
  have b16 : pX12_depends_b16 E g B a c hc = some (-1, sI hc B 19 2) := by unfold pX12_depends_b16; rw [k_refuse S]; rfl
  have b26 : pX13_depends_b26 g (B + 187) a c (sI (sI hr (B + 187) 1 0) (B + 187) 0 0) = some (-1, sI (sI hr (B + 187) 1 0) (B + 187) 0 2) := by unfold pX13_depends_b26; rw [m_refuse S, sI_sI]; rfl
  rcases ha with ⟨t1, t2, -⟩ | ⟨j, hj, rfl, t1, t2⟩
  · exact ⟨-1, _, _, by simp only [pX12_depends, w_tg (st_0 S), t1, w_bd, if_true, b16], by simp only [pX13_depends, w_tg (st_187 S), w_lt, t2, w_bd, if_true, b26], H.stat 2 0⟩
  · rcases hcc with ⟨u1, u2, -⟩ | ⟨k, hk, rfl, u1, u2⟩
    · exact ⟨-1, _, _, by simp only [pX12_depends, w_tg (st_0 S), t1, u1, w_bd, if_true, if_neg n1, b16], by simp only [pX13_depends, w_tg (st_187 S), w_lt, t2, u2, w_bd, if_true, if_neg n1, b26], H.stat 2 0⟩
    · have ek : π'.1 = π.1 := by
        have e1 := hC.2.2.2.2.1
        rw [hC'.2.2.2.2.1] at e1
        exact (nI_eq (by have := wf'.1; omega) (by have := wf.1; omega)).mp e1
      rw [ek] at hk
      have h30 := wf.1
      by_cases hjk : j < k
      · have d1 := k_ties K hC wf hj hk
        have d2 := m_dependsOf S p2' hM wf hj hk
        refine ⟨depP π j k, _, _, ?_, ?_, H.stat 0 0⟩
        · simp only [pX12_depends, w_tg (st_0 S), t1, u1, w_bd, if_neg n1, w_lt, pc_0_4 p1, w_nn, w_tg (st_13 S), mp, w_tg hC.1]
          rw [if_pos (nI_lt hjk (by omega)), d1, w_bd, k_answer S, w_bd2]
        · simp only [pX13_depends, w_tg (st_187 S), w_lt, t2, u2, w_bd, if_neg n1]
          rw [if_neg (nI_ge hjk (by omega)), d2, w_bd]
      · refine ⟨-1, _, _, ?_, ?_, H.stat 9 0⟩
        · simp only [pX12_depends, w_tg (st_0 S), t1, u1, w_bd, if_neg n1]
          rw [if_neg (nI_nlt (by omega) (by omega)), k_refuse S, w_bd2]
        · simp only [pX13_depends, w_tg (st_187 S), w_lt, t2, u2, w_bd, if_neg n1]
          rw [if_pos (nI_le (by omega) (by omega)), m_refuse S, w_bd2, sI_sI]
end DEP
