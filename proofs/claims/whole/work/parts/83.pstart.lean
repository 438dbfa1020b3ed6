/-! THE START of the plain law: both objects made, all holds between them -/
theorem lk_no {α : Type} {d : α} : ∀ {L : List (Nat × Nat × α)} {o k : Nat}, (∀ q ∈ L, q.1 ≠ o) → lk d L o k = d
  | [], _, _, _ => rfl
  | (a, b, x) :: L, o, k, h => by
    have := h (a, b, x) List.mem_cons_self
    rw [lk, if_neg (fun z => this z.1.symm)]
    exact lk_no (fun q hq => h q (List.mem_cons_of_mem _ hq))
theorem lk_mem {α : Type} {d : α} : ∀ {L : List (Nat × Nat × α)} {o k : Nat} {x : α}, lk d L o k = x → x ≠ d → (o, k, x) ∈ L
  | [], _, _, _, h, hx => absurd h.symm hx
  | (a, b, y) :: L, o, k, x, h, hx => by
    rw [lk] at h
    by_cases e : o = a ∧ k = b
    · rw [if_pos e] at h; subst h; obtain ⟨rfl, rfl⟩ := e; exact List.mem_cons_self
    · rw [if_neg e] at h; exact List.mem_cons_of_mem _ (lk_mem h hx)
def okInts (I : List (Nat × Nat × Int32)) : Bool := I.all (fun q => q.1 == 11 || q.1 == 13 || q.1 == 43 || q.1 == 72 || q.1 == 101 || q.1 == 145 || q.1 == 187 || q.1 == 189 || q.1 == 192)
  && lk 0 I 13 4 == 0 && lk 0 I 13 5 == 16 && lk 0 I 13 6 == 8 && lk 0 I 13 7 == 4 && lk 0 I 192 0 == 16 && lk 0 I 192 1 == 8 && lk 0 I 192 2 == 4 && lk 0 I 192 3 == 0 && lk 0 I 192 4 == 0 && lk 0 I 192 5 == 0
  && lk 0 I 11 0 == -1 && lk 0 I 11 1 == -1 && lk 0 I 187 0 == 0 && lk 0 I 187 8 == 0 && lk 0 I 187 21 == 0 && lk 0 I 187 41 == 0 && lk 0 I 187 22 == 0 && lk 0 I 187 3 == 0 && lk 0 I 187 10 == -1 && lk 0 I 187 11 == -1
  && lk 0 I 189 0 == -1 && lk 0 I 189 1 == -1 && lk 0 I 189 2 == -1 && lk 0 I 189 3 == -1
def okPtrs (P : List (Nat × Nat × Nat)) : Bool := ((13, 8, 40) :: (spC ++ spR)).all (fun q => decide (lk none (P.map fun q => (q.1, q.2.1, some q.2.2)) q.1 q.2.1 = some q.2.2))
  && P.all (fun q => if q.1 < 187 then decide (q.2.2 < 187) else decide (187 ≤ q.2.2 ∧ q.2.2 < 205))
section START
variable {B : Nat} {op : Nat → Nat} {T : List (Nat × Nat)} {I : List (Nat × Nat × Int32)} {Q : List (Nat × Nat × UInt64)} {P A : List (Nat × Nat × Nat)} {g : MT} {h : CT}
theorem rel_start (D : DI B T I Q P A g h) (eT : T = stg) (eI : okInts I = true) (eQ : Q.all (fun q => q.1 == 131) = true) (eQ2 : ∀ k, k < 10 → lk 0 Q 131 k = pw k) (eP : okPtrs P = true) (eA : ∀ q ∈ A, q.1 < 187 ∧ q.2.2 < B) : Rel B op g h h ∧ Cl (fun a => ¬ RZ B a) h ∧ Cl (RZ B) h := by
  subst eT
  obtain ⟨⟨h1, h2, h3, h4, h5⟩, i1, i2, i3, i4⟩ := D
  have hlen : stg.length = 205 := by decide +kernel
  rw [hlen] at h1 h4 h5
  have ptr : ∀ q ∈ (13, 8, 40) :: (spC ++ spR), q.1 < 205 → hR h (B + q.1) q.2.1 = some (B + q.2.2) := fun q hq hl => by
    rw [(h4 q.1 hl q.2.1).2.2.2]
    have := List.all_eq_true.mp (Bool.and_eq_true_iff.mp eP).1 q hq
    simp only [decide_eq_true_eq] at this
    unfold lkP
    rw [this]
  have S : Sh B g := ⟨Nat.le_of_eq h1.symm, fun o q hq => h3 o q hq⟩
  have p1 : PtC B (hR h) := fun q hq => ptr q (List.mem_cons_of_mem _ (List.mem_append_left _ hq)) (Nat.lt_trans (spC_lt q hq) (by decide))
  have p2 : PtR B (hR h) := fun q hq => ptr q (List.mem_cons_of_mem _ (List.mem_append_right _ hq)) (spR_in q hq).2
  unfold okInts at eI
  simp only [Bool.and_eq_true, beq_iff_eq] at eI
  obtain ⟨⟨⟨⟨⟨⟨⟨⟨⟨⟨⟨⟨⟨⟨⟨⟨⟨⟨⟨⟨⟨⟨⟨⟨z, a1⟩, a2⟩, a3⟩, a4⟩, a5⟩, a6⟩, a7⟩, a8⟩, a9⟩, a10⟩, b1⟩, b2⟩, b3⟩, b4⟩, b5⟩, b6⟩, b7⟩, b8⟩, b9⟩, b10⟩, c0⟩, c1⟩, c2⟩, c3⟩ := eI
  have zI : ∀ o, o < 205 → (o ≠ 11 ∧ o ≠ 13 ∧ o ≠ 43 ∧ o ≠ 72 ∧ o ≠ 101 ∧ o ≠ 145 ∧ o ≠ 187 ∧ o ≠ 189 ∧ o ≠ 192) → hI h (B + o) = fun _ => 0 := fun o ho hne => by
    funext k
    rw [(h4 o ho k).1]
    refine lk_no fun q hq => ?_
    have := List.all_eq_true.mp z q hq
    simp only [Bool.or_eq_true, beq_iff_eq] at this
    omega
  have zD : ∀ o, o < 205 → o ≠ 131 → hD h (B + o) = fun _ => 0 := fun o ho hne => by
    funext k
    rw [(h4 o ho k).2.2.1]
    refine lk_no fun q hq => ?_
    have := List.all_eq_true.mp eQ q hq
    simp only [beq_iff_eq] at this
    omega
  have gI : ∀ o k, o < 205 → hI h (B + o) k = lk 0 I o k := fun o k ho => (h4 o ho k).1
  have gLL : ∀ o k, o < 205 → hL h (B + o) k = 0 := fun o k ho => (h4 o ho k).2.1
  have rr : ∀ (o1 o2 o3 n b : Nat), o1 < 205 → o2 < 205 → o3 < 205 → o1 ≠ 131 → o3 ≠ 131 → (o2 ≠ 11 ∧ o2 ≠ 13 ∧ o2 ≠ 43 ∧ o2 ≠ 72 ∧ o2 ≠ 101 ∧ o2 ≠ 145 ∧ o2 ≠ 187 ∧ o2 ≠ 189 ∧ o2 ≠ 192) → RowR n (hD h (B + o1)) (hI h (B + o2)) (hD h (B + o3)) b := fun o1 o2 o3 n b l1 l2 l3 n1 n3 n2 i hi => by
    rw [zD o1 l1 n1, zI o2 l2 n2, zD o3 l3 n3]
    exact NumR_ok nn_0
  have B0 : hI h B = fun _ => 0 := zI 0 (by decide) (by decide)
  refine ⟨⟨S, p1, p2, ?_, ?_, ?_, ?_, ?_, ?_, ?_, ?_⟩, fun a k b ha hb => ?_, fun a k b ha hb => ?_⟩
  · refine ⟨?_, ?_, ?_, ?_, ?_, ?_, ?_, ?_, ?_⟩
    · rw [B0, gI 187 0 (by decide), b3]
    · rw [B0, gI 187 8 (by decide), b4]
    · rw [B0, gI 187 21 (by decide), b5]
    · rw [B0, gI 187 41 (by decide), b6]
    · rw [B0, gI 187 22 (by decide), b7]
    · rw [gLL 130 0 (by decide), gLL 187 2 (by decide)]
    · rw [zI 130 (by decide) (by decide), gI 187 3 (by decide), b8]
    · rw [gI 11 0 (by decide), b1, gI 187 10 (by decide), b9]
    · rw [gI 11 1 (by decide), b2, gI 187 11 (by decide), b10]
  · intro k hk
    rw [(h4 131 (by decide) k).2.2.1]
    exact eQ2 k hk
  · intro t ht
    have e : hI h (B + 2 + 2 * t) 0 = 0 := by
      rw [Nat.add_assoc, zI (2 + 2 * t) (by omega) (by omega)]
    rw [e]
    refine ⟨is01_0, fun _ => ?_, fun q => absurd q (by decide)⟩
    rw [gI 189 t (by decide)]
    match t, ht with
    | 0, _ => exact c0
    | 1, _ => exact c1
    | 2, _ => exact c2
    | 3, _ => exact c3
  · refine ⟨⟨0, by decide, by rw [B0]; rfl⟩, by rw [zI 10 (by decide) (by decide), zI 191 (by decide) (by decide)], fun k => by rw [zI 10 (by decide) (by decide)]; rfl⟩
  · refine ⟨⟨⟨16, by decide, ?_, ?_⟩, ⟨8, by decide, by decide, ?_, ?_⟩, ⟨4, by decide, by decide, ?_, ?_⟩, ⟨0, by decide, ?_, ?_⟩, fun r hr => ?_, ?_, fun r hr => ?_, ?_, ?_⟩, B + 40, (0, fun _ _ => 0), ?_, by omega, ⟨by decide, fun k hk => by omega⟩, ⟨st_40 S, pc_40_0 p1, st_41 S, sl_41 S, ?_, fun k hk => by omega⟩, ?_, fun k hk => by omega⟩
    · rw [gI 13 5 (by decide), a2]; rfl
    · rw [gI 192 _ (by decide)]; exact a5
    · rw [gI 13 6 (by decide), a3]; rfl
    · rw [gI 192 _ (by decide)]; exact a6
    · rw [gI 13 7 (by decide), a4]; rfl
    · rw [gI 192 _ (by decide)]; exact a7
    · rw [gI 13 4 (by decide), a1]; rfl
    · rw [gI 192 _ (by decide)]; exact a8
    · rw [show B + 13 + 20 = B + 33 from rfl, zI 33 (by decide) (by decide)]; exact is01_0
    · rw [gI 192 _ (by decide), show B + 13 + 20 = B + 33 from rfl, zI 33 (by decide) (by decide)]; exact a9
    · have e1 : B + 13 + 3 + 3 * r = B + (16 + 3 * r) := by omega
      have e2 : B + 13 + 4 + 3 * r = B + (17 + 3 * r) := by omega
      rw [e1, e2]
      exact rr (16 + 3 * r) (17 + 3 * r) 193 16 _ (by omega) (by omega) (by omega) (by omega) (by omega) (by omega)
    · exact rr 35 36 193 4 _ (by omega) (by omega) (by omega) (by omega) (by omega) (by omega)
    · exact rr 38 39 193 64 _ (by omega) (by omega) (by omega) (by omega) (by omega) (by omega)
    · exact ptr (13, 8, 40) List.mem_cons_self (by decide)
    · rw [zI 40 (by decide) (by decide)]; rfl
    · rw [gI 192 _ (by decide)]; exact a10
  · exact ⟨0, by decide, by rw [B0]; rfl, fun i hi => by omega⟩
  · refine ⟨by rw [B0]; exact is01_0, by rw [B0]; exact is01_0, fun q => ?_, fun q => ?_⟩
    · rw [B0] at q; exact absurd q (by decide)
    · rw [B0] at q; exact absurd q (by decide)
  · unfold ScrR
    rw [zI 136 (by decide) (by decide), zI 137 (by decide) (by decide), zI 183 (by decide) (by decide), zI 184 (by decide) (by decide), zI 185 (by decide) (by decide), zI 186 (by decide) (by decide)]
    exact ⟨is01_0, is01_0, is01_0, is01_0, is01_0, is01_0⟩
  · by_cases hz : a < B ∨ B + 205 ≤ a
    · rw [(h5 a hz k).1] at hb; cases hb
    · obtain ⟨o, rfl⟩ : ∃ o, a = B + o := ⟨a - B, by omega⟩
      have ho : o < 187 := by
        refine Nat.lt_of_not_le fun z => ha ⟨by omega, by omega⟩
      rw [(h4 o (by omega) k).2.2.2] at hb
      unfold lkP at hb
      intro hz2
      cases hq : lk none (P.map fun q => (q.1, q.2.1, some q.2.2)) o k with
      | some t =>
        rw [hq] at hb
        cases hb
        have hm := lk_mem hq (by simp)
        obtain ⟨q, hq1, hq2⟩ := List.mem_map.mp hm
        simp only [Prod.mk.injEq, Option.some.injEq] at hq2
        obtain ⟨rfl, rfl, rfl⟩ := hq2
        have := List.all_eq_true.mp (Bool.and_eq_true_iff.mp eP).2 q hq1
        rw [if_pos ho] at this
        simp only [decide_eq_true_eq] at this
        have := hz2.1
        omega
      | none =>
        rw [hq] at hb
        have hm := lk_mem hb (by simp)
        obtain ⟨q, hq1, hq2⟩ := List.mem_map.mp hm
        simp only [Prod.mk.injEq, Option.some.injEq] at hq2
        obtain ⟨-, -, rfl⟩ := hq2
        have := (eA q hq1).2
        have := hz2.1
        omega
  · obtain ⟨o, rfl⟩ : ∃ o, a = B + o := ⟨a - B, by have := ha.1; omega⟩
    have ho : 187 ≤ o ∧ o < 205 := ⟨by have := ha.1; omega, by have := ha.2; omega⟩
    rw [(h4 o ho.2 k).2.2.2] at hb
    unfold lkP at hb
    cases hq : lk none (P.map fun q => (q.1, q.2.1, some q.2.2)) o k with
    | some t =>
      rw [hq] at hb
      cases hb
      have hm := lk_mem hq (by simp)
      obtain ⟨q, hq1, hq2⟩ := List.mem_map.mp hm
      simp only [Prod.mk.injEq, Option.some.injEq] at hq2
      obtain ⟨rfl, rfl, rfl⟩ := hq2
      have := List.all_eq_true.mp (Bool.and_eq_true_iff.mp eP).2 q hq1
      rw [if_neg (by omega)] at this
      simp only [decide_eq_true_eq] at this
      exact ⟨by omega, by omega⟩
    | none =>
      rw [hq] at hb
      have hm := lk_mem hb (by simp)
      obtain ⟨q, hq1, hq2⟩ := List.mem_map.mp hm
      simp only [Prod.mk.injEq, Option.some.injEq] at hq2
      obtain ⟨rfl, -, -⟩ := hq2
      have := (eA q hq1).1
      omega
end START
set_option maxRecDepth 100000 in
set_option maxHeartbeats 20000000 in
theorem law_pure {B L b : Nat} {E : EC} {op st bt : Nat → Nat} {aL aS aO : Nat} {xs : Nat → Int32} (hE : EOK E b L xs op st bt aL aS aO) (hEB : EB E B) (hL : L ≤ 3072) (hC : Calls B E op) : PureOK E B b := by
  have eL : E.1 0 = .ref aL ∧ gT E.2.2 aL = 20 ∧ gL E.2.2 aL = 4 := ⟨hE.1.1, hE.2.2.2.1.1, hE.2.2.2.1.2.1⟩
  have eS : E.1 50 = .ref (st 0) := hE.1.2.2.2.2.2.2.2 0 (by decide)
  have D0 : DI B [] [] [] [] [] (gz B) hz := ⟨⟨rfl, rfl, fun i q hq => (by cases hq), fun o ho => absurd ho (Nat.not_lt_zero o), fun _ _ _ => ⟨rfl, rfl⟩⟩, fun q hq => (by cases hq), fun q hq => (by cases hq), fun q hq => (by cases hq), fun q hq => (by cases hq)⟩
  have D1 : DI B [(11, 20)] [] [] [] [] (gA (gz B) 11 20) (hZ hz B) := D0.new B rfl
  obtain ⟨g7, h8, e1, D2⟩ := i_class eL eS D1 1 rfl 0 rfl (fun _ => rfl)
  have N2 : gN g7 = B + 187 := D2.N
  have D3 := D2.new (t := 12) (n := 52) (B + 187) N2
  obtain ⟨g18, h19, e2, D4⟩ := i_model D3 188 (by decide +kernel) 187 (by decide +kernel)
  have hs : st 0 < B := hEB.1 50 _ (by decide) eS
  obtain ⟨R, c1, c2⟩ := rel_start (op := op) D4 (by decide +kernel) (by decide +kernel) (by decide +kernel) (by decide +kernel) (by decide +kernel) (by
    intro q hq
    simp only [List.mem_cons, List.not_mem_nil, or_false] at hq
    subst hq
    exact ⟨(by show 1 + 10 < 187; decide), hs⟩)
  have N4 := D4.N
  have U4 := D4.U
  have N4' : gN g18 = B + 205 := N4
  have U4' : gU g18 ≤ 20000 := by rw [U4]; decide +kernel
  obtain ⟨g', h', q1, q2, q3, q4, q5⟩ := law_loop hE hEB hL hC FUEL 0 0 g18 h19 ⟨R, c1, c2, by omega, by omega, fun a ha => (D4.1.2.2.2.2 a (by rw [N4] at ha; exact Or.inr ha) 0).2⟩ rfl (Nat.zero_le _) (by unfold FUEL; omega)
  have gN7 : gN g7 ≤ gN g' := by omega
  have U2 : gU g7 ≤ gU g' := by
    refine Nat.le_trans ?_ q5
    rw [D2.U, U4]
    decide +kernel
  refine ⟨g', h', ?_, q2, q3⟩
  unfold pL_law
  simp only [w_lt]
  rw [show gN (gz B) = B from rfl, w_tg (show gT (gA (gz B) 11 20) B = 11 from D1.tag (o := 0) rfl), show pX12_init E (gA (gz B) 11 20) (hZ hz B) B = some (g7, h8) from e1, w_bd2, N2, w_tg (show gT (gA g7 12 52) (B + 187) = 12 from D3.tag (o := 187) (q := (12, 52)) (by decide +kernel)), e2, w_bd2, show (0 : Int32) = nI 0 from rfl, q1]
  have z1 : gN (gA g7 12 52) ≤ gN g' := by rw [gN_gA]; omega
  have z2 : gU (gA g7 12 52) ≤ gU g' := by
    refine Nat.le_trans ?_ q5
    rw [gU_gA, D2.U, U4]
    decide +kernel
  rw [w_gq ⟨q4, q5⟩, w_gq ⟨z1, z2⟩, w_gq ⟨gN7, U2⟩, w_gq, w_gq]
  · exact ⟨by show B ≤ gN g'; omega, Nat.zero_le _⟩
  · exact ⟨by show B + 1 ≤ gN g'; omega, by
      refine Nat.le_trans (Nat.le_trans ?_ (Nat.le_of_eq D2.U.symm)) U2
      show 0 + 20 ≤ _
      decide +kernel⟩
