/-! a run aside -/
section ASD
variable {B b L : Nat} {E : EC} {xs : Nat → Int32} {op st bt : Nat → Nat} {aL aS aO : Nat} {g : MT} {h h' h1 h2 hc hr hc' hr' : CT} {q z p pp : Nat} {π ρ : Pg} {k n nb y t T : Nat}
/-- what stands, for runs aside -/
def MR (B : Nat) (op : Nat → Nat) (g : MT) (hc hr : CT) (pp : Nat) (π : Pg) : Prop := PtC B (hR hc) ∧ PtR B (hR hr) ∧ PowR B hc ∧ SC B hc ∧ DM B (B + 13) hc hr ∧ hR hc (B + 13) 8 = some pp ∧ pp ≠ B + 174 ∧ PgC op g hc pp π ∧ PgM (hI hr (B + 192)) 0 π
def AC (B : Nat) (h h' : CT) : Prop := PtC B (hR h') ∧ SC B h' ∧ (∀ a, (a < B + 145 ∨ B + 171 < a) → (a < B + 174 ∨ B + 182 < a) → (a < B + 130 ∨ B + 137 < a ∨ a = B + 131) → Eqa h h' a) ∧ (∀ k, k ≠ 4 → hI h' (B + 130) k = hI h (B + 130) k) ∧ ∀ k, k ≠ 3 → hL h' (B + 130) k = hL h (B + 130) k
def AR (B : Nat) (h h' : CT) : Prop := hR h' = hR h ∧ (∀ w, w ≠ B + 187 → (w < B + 192 ∨ B + 200 < w) → Eqa h h' w) ∧ (∀ k, ¬ (29 ≤ k ∧ k ≤ 44 ∧ k ≠ 41) → k ≠ 51 → hI h' (B + 187) k = hI h (B + 187) k) ∧ hL h' (B + 187) = hL h (B + 187) ∧ (∀ i, i < 1230 → hI h' (B + 192) i = hI h (B + 192) i) ∧ ∀ i, i < 820 → hD h' (B + 193) i = hD h (B + 193) i
theorem AC.rf (p : PtC B (hR h)) (s : SC B h) : AC B h h := ⟨p, s, fun a _ _ _ => Eqa.rf h a, fun _ _ => rfl, fun _ _ => rfl⟩
theorem AC.tr (x : AC B h h1) (u : AC B h1 h2) : AC B h h2 := ⟨u.1, u.2.1, fun a b c d => (x.2.2.1 a b c d).tr (u.2.2.1 a b c d), fun k hk => (u.2.2.2.1 k hk).trans (x.2.2.2.1 k hk), fun k hk => (u.2.2.2.2 k hk).trans (x.2.2.2.2 k hk)⟩
theorem AR.rf (B : Nat) (h : CT) : AR B h h := ⟨rfl, fun w _ _ => Eqa.rf h w, fun _ _ _ => rfl, rfl, fun _ _ => rfl, fun _ _ => rfl⟩
theorem AR.tr (x : AR B h h1) (u : AR B h1 h2) : AR B h h2 := ⟨u.1.trans x.1, fun w a b => (x.2.1 w a b).tr (u.2.1 w a b), fun k a b => (u.2.2.1 k a b).trans (x.2.2.1 k a b), u.2.2.2.1.trans x.2.2.2.1, fun i a => (u.2.2.2.2.1 i a).trans (x.2.2.2.2.1 i a), fun i a => (u.2.2.2.2.2 i a).trans (x.2.2.2.2.2 i a)⟩
/-- cells of PROGRAMS are none that a run aside writes -/
theorem AC.out (S : Sh B g) {a : Nat} (T : gT g a = 2 ∨ gT g a = 6 ∨ gT g a = 25) (n1 : a ≠ B + 174) (n2 : a ≠ B + 175) (x : AC B h h1) : Eqa h h1 a := by
  have Q : QZ B (B + 145) (B + 176) := Or.inr ⟨rfl, rfl⟩
  obtain ⟨o1, o2, o3⟩ := prog_out S Q T
  exact x.2.2.1 a (by omega) (by omega) (by omega)
theorem AC.pg (S : Sh B g) (x : AC B h h1) (np : pp ≠ B + 174) (P : PgC op g h pp π) : PgC op g h1 pp π := by
  obtain ⟨p1, p2, p3, p4, p5, p6⟩ := P
  have t175 : gT g (B + 175) = 25 := st_175 S
  have e0 := x.out S (Or.inr (Or.inl p1)) np (fun e => by rw [e, t175] at p1; exact absurd p1 (by decide))
  have e1 := x.out S (Or.inr (Or.inr p3)) (fun e => by rw [e, st_174 S] at p3; exact absurd p3 (by decide)) (by omega)
  refine ⟨p1, by rw [e0.2.2.2]; exact p2, p3, p4, by rw [e0.1]; exact p5, fun k hk => ?_⟩
  obtain ⟨i, i1, i2, i3, i4⟩ := p6 k hk
  have e2 := x.out S (Or.inl i2) (fun e => by rw [e, st_174 S] at i2; exact absurd i2 (by decide)) (fun e => by rw [e, t175] at i2; exact absurd i2 (by decide))
  exact ⟨i, by rw [e1.2.2.2]; exact i1, i2, by rw [e2.2.2.2]; exact i3, fun f f1 f2 => by rw [e2.1]; exact i4 f f1 f2⟩
theorem MR.c (S : Sh B g) (x : AC B hc hc') (M : MR B op g hc hr pp π) : MR B op g hc' hr pp π := by
  obtain ⟨m1, m2, m3, m4, m5, m6, m7, m8, m9⟩ := M
  have e13 : ∀ j, j < 27 → Eqa hc hc' (B + 13 + j) := fun j hj => x.2.2.1 _ (by omega) (by omega) (by omega)
  exact ⟨x.1, m2, fun k hk => by rw [(x.2.2.1 (B + 131) (by omega) (by omega) (by omega)).2.2.1]; exact m3 k hk, x.2.1, MacD.keep2 (fun j hj => ⟨(e13 j hj).1, (e13 j hj).2.2.1⟩) (fun _ _ _ => rfl) (fun _ _ _ => rfl) m5, by rw [(e13 0 (by omega)).2.2.2]; exact m6, m7, x.pg S m7 m8, m9⟩
theorem MR.r (h30 : π.1 ≤ 30) (x : AR B hr hr') (M : MR B op g hc hr pp π) : MR B op g hc hr' pp π := by
  obtain ⟨m1, m2, m3, m4, m5, m6, m7, m8, m9⟩ := M
  exact ⟨m1, by rw [x.1]; exact m2, m3, m4, MacD.keep2 (fun j _ => ⟨rfl, rfl⟩) (fun i _ i2 => x.2.2.2.2.1 i (by omega)) (fun i _ i2 => x.2.2.2.2.2 i (by omega)) m5, m6, m7, m8, m9.keep2 h30 (fun i _ i2 => x.2.2.2.2.1 i (by omega))⟩
theorem or01 {x u : Int32} (hx : is01 x) (hu : is01 u) : is01 (x ||| u) ∧ (x ||| u = 0 ↔ x = 0 ∧ u = 0) := by
  rcases hx with rfl | rfl <;> rcases hu with rfl | rfl <;> exact ⟨by first | exact Or.inl rfl | exact Or.inr rfl, by decide⟩
/-- both, once the machine aside is made -/
theorem aside_run (K : EOK E b L xs op st bt aL aS aO) (S : Sh B g) (wf : WF ρ) (p1 : PtC B (hR h)) (p2 : PtR B (hR hr)) (pow : PowR B h) (sc : SC B h) (D : DM B (B + 145) h hr) (ep : hR h (B + 145) 8 = some p) (PC : PgC op g h p ρ) (PM : PgM (hI hr (B + 192)) 0 ρ) (u51 : is01 (hI hr (B + 187) 51)) (a1 a2 : Int32) :
    ∃ h' hr' v u, v < 2 ^ 30 ∧ is01 u ∧ pX12_trialCycles_b42 E g B a1 h = some (if u = 0 then nI v else -1, h') ∧ pX13_cyclesAside_b15 g (B + 187) a2 hr = some (nI v, hr') ∧ hI hr' (B + 187) 51 = hI hr (B + 187) 51 ||| u ∧ BFr B (B + 145) (B + 176) h h'
      ∧ hR hr' = hR hr ∧ (∀ w, w ≠ B + 187 → (w < B + 192 ∨ B + 200 < w) → Eqa hr hr' w) ∧ (∀ k, ¬ (29 ≤ k ∧ k ≤ 44 ∧ k ≠ 41) → k ≠ 51 → hI hr' (B + 187) k = hI hr (B + 187) k) ∧ hL hr' (B + 187) = hL hr (B + 187)
      ∧ (∀ i, i < 246 → hI hr' (B + 192) i = hI hr (B + 192) (1230 + i)) ∧ (∀ i, 246 ≤ i → hI hr' (B + 192) i = hI hr (B + 192) i) ∧ (∀ i, i < 164 → hD hr' (B + 193) i = hD hr (B + 193) (820 + i)) ∧ ∀ i, 164 ≤ i → hD hr' (B + 193) i = hD hr (B + 193) i := by
  have h30 := wf.1
  have Q : QZ B (B + 145) (B + 176) := Or.inr ⟨rfl, rfl⟩
  obtain ⟨h', x, y, -, u1, u2, u3, u4, u5⟩ := both_run K S Q wf p1 p2 pow sc D PC PM ep
  have p1' := u4.ptc p1
  have p2' : PtR B (hR x) := by rw [u5.1]; exact p2
  have x51 : hI x (B + 187) 51 = hI hr (B + 187) 51 := u5.2.2.1 51 (by decide)
  have main : ∀ u : Int32, is01 u → ∃ hr', pX13_cyclesAside_b36 g (B + 187) a2 (B + 187) (hI x (B + 187) 51) u x = some (hI x (B + 187) 34, hr') ∧ hI hr' (B + 187) 51 = hI hr (B + 187) 51 ||| u
      ∧ hR hr' = hR hr ∧ (∀ w, w ≠ B + 187 → (w < B + 192 ∨ B + 200 < w) → Eqa hr hr' w) ∧ (∀ k, ¬ (29 ≤ k ∧ k ≤ 44 ∧ k ≠ 41) → k ≠ 51 → hI hr' (B + 187) k = hI hr (B + 187) k) ∧ hL hr' (B + 187) = hL hr (B + 187)
      ∧ (∀ i, i < 246 → hI hr' (B + 192) i = hI hr (B + 192) (1230 + i)) ∧ (∀ i, 246 ≤ i → hI hr' (B + 192) i = hI hr (B + 192) i) ∧ (∀ i, i < 164 → hD hr' (B + 193) i = hD hr (B + 193) (820 + i)) ∧ ∀ i, 164 ≤ i → hD hr' (B + 193) i = hD hr (B + 193) i := fun u hu => by
    have p2'' : PtR B (hR (sI x (B + 187) 51 (hI x (B + 187) 51 ||| u))) := p2'
    obtain ⟨h2, d1, d2, d3, d4, d5, d6⟩ := m_copy (h := sI x (B + 187) 51 (hI x (B + 187) 51 ||| u)) (s := 5) (t := 0) S p2'' (by omega) (by omega) (by omega)
    have d1' : pX13_copy g (sI x (B + 187) 51 (hI x (B + 187) 51 ||| u)) (B + 187) 5 0 = some h2 := d1
    have e187 : ∀ k, hI h2 (B + 187) k = ud (hI x (B + 187)) 51 (hI x (B + 187) 51 ||| u) k := fun k => by rw [(d2.2 (B + 187) (by omega) (by omega)).1, hI_sI, if_pos rfl]
    have e192 : hI (sI x (B + 187) 51 (hI x (B + 187) 51 ||| u)) (B + 192) = hI x (B + 192) := by rw [hI_sI, if_neg (by omega)]
    rw [e192] at d3 d4
    refine ⟨h2, ?_, by rw [e187, ud_s, x51], d2.1.trans u5.1, fun w w1 w2 => ((u5.2.1 w w1 w2).sI w1).tr (d2.2 w (by omega) (by omega)), fun k k1 k2 => by rw [e187, ud_n k2]; exact u5.2.2.1 k k1, by rw [(d2.2 (B + 187) (by omega) (by omega)).2.1]; exact u5.2.2.2.1, fun i hi => ?_, fun i hi => ?_, fun i hi => ?_, fun i hi => ?_⟩
    · unfold pX13_cyclesAside_b36
      rw [w_bz (or01 (by rw [x51]; exact u51) hu).1, w_tg (st_187 S), w_lt, d1', w_bd, e187, ud_n (by decide)]
    · have := d3 i hi
      rw [show 246 * 0 + i = i by omega, show 246 * 5 + i = 1230 + i by omega] at this
      rw [this]; exact u5.2.2.2.2.1 _ (by omega)
    · rw [d4 i (by omega)]; exact u5.2.2.2.2.1 _ (by omega)
    · have := d5 i hi
      rw [show 164 * 0 + i = i by omega, show 164 * 5 + i = 820 + i by omega] at this
      rw [this]; exact u5.2.2.2.2.2 _ (by omega)
    · rw [d6 i (by omega)]; exact u5.2.2.2.2.2 _ (by omega)
  have cls : pX12_trialCycles_b42 E g B a1 h = some (if hI h' (B + 176) 3 = 0 then hI h' (B + 176) 0 else -1, h') := by
    unfold pX12_trialCycles_b42
    simp only [w_lt, pc_0_7 p1, pc_0_11 p1, pc_0_13 p1, w_nn, w_tg (st_132 S), u1, w_bd, pc_0_13 p1', w_tg (st_176 S)]
    by_cases c : hI h' (B + 176) 3 = 0
    · rw [if_pos c, if_pos c]
    · rw [if_neg c, if_neg c]
  have ref : pX13_cyclesAside_b15 g (B + 187) a2 hr = if hI x (B + 187) 37 ≤ 0 then pX13_cyclesAside_b36 g (B + 187) a2 (B + 187) (hI x (B + 187) 51) 0 x else pX13_cyclesAside_b36 g (B + 187) a2 (B + 187) (hI x (B + 187) 51) 1 x := by
    unfold pX13_cyclesAside_b15
    rw [u2, w_bd]
  obtain ⟨F, G, -, C, Ct, hF, -, -, fin⟩ := id u3
  have hv : F 0 0 < 2 ^ 30 := by have := hF 0 0; omega
  have c0 : hI h' (B + 176) 0 = nI (F 0 0) := C.1 0 (by decide)
  have r0 : hI x (B + 187) 34 = nI (F 0 0) := Ct.1 0 (by decide)
  rcases fin with ⟨⟨t3, -, -⟩, t37⟩ | ⟨ik, hk, c, i, cc1, c3, hi, ⟨t3, -, -⟩, t37, -⟩
  · obtain ⟨hr', m1, m2⟩ := main 0 (Or.inl rfl)
    refine ⟨h', hr', F 0 0, 0, hv, Or.inl rfl, by rw [cls, if_pos t3, c0]; rfl, ?_, m2.1, u4, m2.2⟩
    rw [ref, if_pos (by rw [t37]; decide), m1, r0]
  · obtain ⟨hr', m1, m2⟩ := main 1 (Or.inr rfl)
    have n3 : ¬ hI h' (B + 176) 3 = 0 := by rw [t3]; exact fun w => absurd ((nI_eq (a := c) (b := 0) (by omega) (by omega)).mp w) (by omega)
    refine ⟨h', hr', F 0 0, 1, hv, Or.inr rfl, by rw [cls, if_neg n3]; rfl, ?_, m2.1, u4, m2.2⟩
    rw [ref, if_neg (by rw [t37, Int32.le_iff_toInt_le, nI_toInt (by omega)]; show ¬ (c : Int) ≤ 0; omega), m1, r0]
end ASD
