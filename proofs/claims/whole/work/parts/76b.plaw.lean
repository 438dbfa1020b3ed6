/-! written by wip/whole/pure/law.py: the law answers 1 where the calls keep their word -/
theorem fr_R {B : Nat} {W : List (Nat × Nat)} {g : MT} {h h' : CT} (F : FrC (fun a => ¬ RZ B a) W g h h') : OfR B [] h h' := fun a ha _ =>
  ⟨funext fun k => (F.2 a k).1 fun q => q.1 ha, funext fun k => (F.2 a k).2.1 fun q => q.1 ha, funext fun k => (F.2 a k).2.2.1 fun q => q.1 ha, funext fun k => (F.2 a k).2.2.2 fun q => q.1 ha⟩
theorem fr_C {B : Nat} {W : List (Nat × Nat)} {g : MT} {h h' : CT} (F : FrC (RZ B) W g h h') : OfC B [] h h' := fun a ha _ =>
  ⟨funext fun k => (F.2 a k).1 fun q => ha q.1, funext fun k => (F.2 a k).2.1 fun q => ha q.1, funext fun k => (F.2 a k).2.2.1 fun q => ha q.1, funext fun k => (F.2 a k).2.2.2 fun q => ha q.1⟩
theorem fr_RA {B : Nat} {W : List (Nat × Nat)} {g g' : MT} {h h' : CT} (hN : B + 205 ≤ gN g) (F : FrA (fun a => ¬ RZ B a) W g h g' h') : OfR B [] h h' := fun a ha _ => by
  have hl : a < gN g := Nat.lt_of_lt_of_le ha.2 hN
  exact ⟨funext fun k => (F.2.2.2 a k hl).1 fun q => q.1 ha, funext fun k => (F.2.2.2 a k hl).2.1 fun q => q.1 ha, funext fun k => (F.2.2.2 a k hl).2.2.1 fun q => q.1 ha, funext fun k => (F.2.2.2 a k hl).2.2.2 fun q => q.1 ha⟩
def Top (B : Nat) (op : Nat → Nat) (g : MT) (h : CT) (c : Nat) : Prop := Rel B op g h h ∧ Cl (fun a => ¬ RZ B a) h ∧ Cl (RZ B) h ∧ gN g ≤ B + 205 + 40 * c ∧ gU g ≤ 20000 + 500 * c ∧ TZ g
section STEP
variable {B c : Nat} {op : Nat → Nat} {g : MT} {h : CT}
theorem stepR {α : Type} {f k : MT → CT → Option (α × CT)} (C : CallR B op f k) (Ff : ∀ g h r h', f g h = some (r, h') → Cl (fun a => ¬ RZ B a) h → ∃ W, FrC (fun a => ¬ RZ B a) W g h h') (Fk : ∀ g h r h', k g h = some (r, h') → Cl (RZ B) h → ∃ W, FrC (RZ B) W g h h') (T : Top B op g h c) :
    ∃ r h1 h2, f g h = some (r, h1) ∧ k g h1 = some (r, h2) ∧ Top B op g h2 (c + 1) := by
  obtain ⟨R, t1, t2, t3, t4, tz⟩ := T
  obtain ⟨r, h1, -, e1, -, -⟩ := C g h h R
  obtain ⟨W, F1⟩ := Ff g h r h1 e1 t1
  have o1 := fr_R F1
  obtain ⟨r', h1', h2, e1', e2, R2⟩ := C g h h1 (R.same (OfC.rf h) o1)
  have ee := e1.symm.trans e1'
  simp only [Option.some.injEq, Prod.mk.injEq] at ee
  obtain ⟨rfl, rfl⟩ := ee
  have t2' : Cl (RZ B) h1 := fun a k b ha hb => t2 a k b ha (by rw [(o1 a ha (by simp)).2.2.2] at hb; exact hb)
  obtain ⟨W2, F2⟩ := Fk g h1 r h2 e2 t2'
  have o2 := fr_C F2
  refine ⟨r, h1, h2, e1, e2, R2.same o2 (OfR.rf h2), fun a k b ha hb => F1.1 a k b ha (by rw [(o2 a ha (by simp)).2.2.2] at hb; exact hb), F2.1, by omega, by omega, tz⟩
theorem stepP {α : Type} {f : MT → CT → Option α} {k : MT → CT → Option (α × CT)} (C : CallP B op f k) (Fk : ∀ g h r h', k g h = some (r, h') → Cl (RZ B) h → ∃ W, FrC (RZ B) W g h h') (T : Top B op g h c) :
    ∃ r h2, f g h = some r ∧ k g h = some (r, h2) ∧ Top B op g h2 (c + 1) := by
  obtain ⟨R, t1, t2, t3, t4, tz⟩ := T
  obtain ⟨r, h2, e1, e2, R2⟩ := C g h h R
  obtain ⟨W2, F2⟩ := Fk g h r h2 e2 t2
  have o2 := fr_C F2
  refine ⟨r, h2, e1, e2, R2.same o2 (OfR.rf h2), fun a k b ha hb => t1 a k b ha (by rw [(o2 a ha (by simp)).2.2.2] at hb; exact hb), F2.1, by omega, by omega, tz⟩
theorem stepA {α : Type} {f : MT → CT → Option (α × MT × CT)} {k : MT → CT → Option (α × CT)} (C : CallA B op f k) (Ff : ∀ g h r g' h', f g h = some (r, g', h') → B + 205 ≤ gN g → Cl (fun a => ¬ RZ B a) h → ∃ W, FrA (fun a => ¬ RZ B a) W g h g' h') (Fk : ∀ g h r h', k g h = some (r, h') → Cl (RZ B) h → ∃ W, FrC (RZ B) W g h h') (T : Top B op g h c) :
    ∃ r g1 h1 h2, f g h = some (r, g1, h1) ∧ k g1 h1 = some (r, h2) ∧ Top B op g1 h2 (c + 1) ∧ gN g ≤ gN g1 ∧ gU g ≤ gU g1 := by
  obtain ⟨R, t1, t2, t3, t4, tz⟩ := T
  obtain ⟨r, g1, h1, -, e1, -, -⟩ := C g h h R tz
  obtain ⟨W, F1⟩ := Ff g h r g1 h1 e1 R.1.1 t1
  have o1 := fr_RA R.1.1 F1
  obtain ⟨r', g1', h1', h2, e1', e2, R2, n1, n2, n3, n4, tz1⟩ := C g h h1 (R.same (OfC.rf h) o1) tz
  have ee := e1.symm.trans e1'
  simp only [Option.some.injEq, Prod.mk.injEq] at ee
  obtain ⟨rfl, rfl, rfl⟩ := ee
  have t2' : Cl (RZ B) h1 := fun a k b ha hb => t2 a k b ha (by rw [(o1 a ha (by simp)).2.2.2] at hb; exact hb)
  obtain ⟨W2, F2⟩ := Fk g1 h1 r h2 e2 t2'
  have o2 := fr_C F2
  refine ⟨r, g1, h1, h2, e1, e2, ⟨R2.same o2 (OfR.rf h2), fun a k b ha hb => F1.2.2.1 a k b ha (by rw [(o2 a ha (by simp)).2.2.2] at hb; exact hb), F2.1, ?_, ?_, tz1⟩, n1, n3⟩
  · exact Nat.le_trans n2 (by omega)
  · exact Nat.le_trans n4 (by omega)
end STEP
theorem ix_l0 {i L : Nat} (h : i + 6 ≤ L) (hL : L ≤ 3072) {α : Type} (k : Option α) : ix L (nI i) k = k := w_ix (by omega) (by omega) k
theorem ix_l1 {i L : Nat} (h : i + 6 ≤ L) (hL : L ≤ 3072) {α : Type} (k : Option α) : ix L (nI i + 1) k = k := by rw [show (nI i + 1 : Int32) = nI (i + 1) from nI_add i 1]; exact w_ix (by omega) (by omega) k
theorem ix_l2 {i L : Nat} (h : i + 6 ≤ L) (hL : L ≤ 3072) {α : Type} (k : Option α) : ix L (nI i + 2) k = k := by rw [show (nI i + 2 : Int32) = nI (i + 2) from nI_add i 2]; exact w_ix (by omega) (by omega) k
theorem ix_l3 {i L : Nat} (h : i + 6 ≤ L) (hL : L ≤ 3072) {α : Type} (k : Option α) : ix L (nI i + 3) k = k := by rw [show (nI i + 3 : Int32) = nI (i + 3) from nI_add i 3]; exact w_ix (by omega) (by omega) k
theorem ix_l4 {i L : Nat} (h : i + 6 ≤ L) (hL : L ≤ 3072) {α : Type} (k : Option α) : ix L (nI i + 4) k = k := by rw [show (nI i + 4 : Int32) = nI (i + 4) from nI_add i 4]; exact w_ix (by omega) (by omega) k
theorem ix_l5 {i L : Nat} (h : i + 6 ≤ L) (hL : L ≤ 3072) {α : Type} (k : Option α) : ix L (nI i + 5) k = k := by rw [show (nI i + 5 : Int32) = nI (i + 5) from nI_add i 5]; exact w_ix (by omega) (by omega) k
theorem lg_cmp_self (x : Int64) : lg_cmp x x = 0 := by simp [lg_cmp]
theorem rz_B (B : Nat) : ¬ RZ B B := fun z => by have := z.1; omega
theorem rz_M (B : Nat) : RZ B (B + 187) := ⟨by omega, by omega⟩
theorem rz_E {B : Nat} {E : EC} (h : EB E B) : PEc (fun a => ¬ RZ B a) E := ⟨fun i b hi hb z => Nat.lt_irrefl _ (Nat.lt_of_lt_of_le (h.1 i b hi hb) (Nat.le_trans (Nat.le_add_right B 187) z.1)), fun a k b hb z => Nat.lt_irrefl _ (Nat.lt_of_lt_of_le (h.2 a k b hb) (Nat.le_trans (Nat.le_add_right B 187) z.1))⟩
set_option maxRecDepth 100000 in
set_option maxHeartbeats 20000000 in
theorem law_loop {B L b : Nat} {E : EC} {op st bt : Nat → Nat} {aL aS aO : Nat} {xs : Nat → Int32} (hE : EOK E b L xs op st bt aL aS aO) (hEB : EB E B) (hL : L ≤ 3072) (hC : Calls B E op) : ∀ (n i c : Nat) (g : MT) (h : CT), Top B op g h c → i = 6 * c → i ≤ L → L < i + 6 * n →
    ∃ g' h', pL_law_l18 E b n B (B + 187) (nI i) g h = some (1, g', h') ∧ gN g' ≤ B + 600000 ∧ gU g' ≤ 7302250 ∧ gN g ≤ gN g' ∧ gU g ≤ gU g' := by
  intro n
  induction n with
  | zero => intro i c g h T e1 e2 e3; omega
  | succ n ih =>
    intro i c g h T e1 e2 e3
    have hPE := rz_E hEB
    obtain ⟨-, -, -, -, -, -, hb1, hb2, -⟩ := hE
    rw [pL_law_l18, pL_law_b18, w_tg hb1]
    simp only [hb2]
    by_cases h6 : i + 6 ≤ L
    · have hlt : ¬ ((Int32.ofNat L) - 6 < nI i) := by
        rw [show (Int32.ofNat L - 6 : Int32) = nI (L - 6) from pk_sub (a := L) (b := 6) (by omega)]
        exact nI_nlt (by omega) (by omega)
      rw [if_neg hlt]
      simp only [w_lt, ix_l0 h6 hL]
      have nxt : ∀ (g1 : MT) (h2 : CT), Top B op g1 h2 (c + 1) → ∃ g' h', pL_law_b1469 E b (pL_law_l18 E b n) B (B + 187) (nI i) g1 h2 = some (1, g', h') ∧ gN g' ≤ B + 600000 ∧ gU g' ≤ 7302250 ∧ gN g1 ≤ gN g' ∧ gU g1 ≤ gU g' := by
        intro g1 h2 T'
        rw [pL_law_b1469, w_lt, show (nI i + 6 : Int32) = nI (i + 6) from nI_add i 6]
        obtain ⟨g', h', q1, q2, q3, q4, q5⟩ := ih (i + 6) (c + 1) g1 h2 T' (by omega) h6 (by omega)
        exact ⟨g', h', q1, q2, q3, q4, q5⟩
      obtain ⟨c0, c1, c2, c3, c4, c5, c6, c7, c8, c9, c10, c11, c12, c13, c14, c15, c16, c17, c18, c19, c20, c21, c22, c23, c24, c25, c26, c27, c28, c29, c30, c31, c32, c33, c34, c35, c36⟩ := hC
      have SH := T.1.1
      by_cases z0 : hI E.2.1 b (Int32.toNatClampNeg (nI i)) &&& 63 = 0
      · rw [if_pos z0]
        obtain ⟨r, h2, q1, q2, T2⟩ := stepP c0 (fun g h r h' hf hc => ⟨_, pX13_status_fr hc (rz_M B) hf⟩) T
        simp only [ w_tg (st_0 SH), w_tg (st_187 SH), q1, w_bd, q2, w_bd2, if_true]
        exact nxt _ _ T2
      rw [if_neg z0]
      by_cases z1 : hI E.2.1 b (Int32.toNatClampNeg (nI i)) &&& 63 = 1
      · rw [if_pos z1]
        obtain ⟨r, h2, q1, q2, T2⟩ := stepP c1 (fun g h r h' hf hc => ⟨_, pX13_mantissa_fr hc (rz_M B) hf⟩) T
        simp only [ w_tg (st_0 SH), w_tg (st_187 SH), q1, w_bd, q2, w_bd2, lg_cmp_self, if_true]
        exact nxt _ _ T2
      rw [if_neg z1]
      by_cases z2 : hI E.2.1 b (Int32.toNatClampNeg (nI i)) &&& 63 = 2
      · rw [if_pos z2]
        obtain ⟨r, h2, q1, q2, T2⟩ := stepP c2 (fun g h r h' hf hc => ⟨_, pX13_exponent_fr hc (rz_M B) hf⟩) T
        simp only [ w_tg (st_0 SH), w_tg (st_187 SH), q1, w_bd, q2, w_bd2, if_true]
        exact nxt _ _ T2
      rw [if_neg z2]
      by_cases z3 : hI E.2.1 b (Int32.toNatClampNeg (nI i)) &&& 63 = 3
      · rw [if_pos z3]
        obtain ⟨r, h1, h2, q1, q2, T2⟩ := stepR (c3 (hI E.2.1 b (Int32.toNatClampNeg (nI i + 1))) (hI E.2.1 b (Int32.toNatClampNeg (nI i + 2))) (hI E.2.1 b (Int32.toNatClampNeg (nI i + 3)))) (fun g h r h' hf hc => ⟨_, pX12_tray_fr hc (rz_B B) hf⟩) (fun g h r h' hf hc => ⟨_, pX13_tray_fr hc (rz_M B) hf⟩) T
        simp only [ix_l1 h6 hL, ix_l2 h6 hL, ix_l3 h6 hL, w_tg (st_0 SH), w_tg (st_187 SH), q1, w_bd2, q2, if_true]
        exact nxt _ _ T2
      rw [if_neg z3]
      by_cases z4 : hI E.2.1 b (Int32.toNatClampNeg (nI i)) &&& 63 = 4
      · rw [if_pos z4]
        obtain ⟨r, h1, h2, q1, q2, T2⟩ := stepR (c4 (hI E.2.1 b (Int32.toNatClampNeg (nI i + 1))) (hI E.2.1 b (Int32.toNatClampNeg (nI i + 2))) (((Int32.toInt64 (hI E.2.1 b (Int32.toNatClampNeg (nI i + 3)))) <<< (Int32.toInt64 32 &&& 63)) ||| ((Int32.toInt64 (hI E.2.1 b (Int32.toNatClampNeg (nI i + 4)))) &&& 4294967295))) (fun g h r h' hf hc => ⟨_, pX12_write_fr hc (rz_B B) hf⟩) (fun g h r h' hf hc => ⟨_, pX13_write_fr hc (rz_M B) hf⟩) T
        simp only [ix_l1 h6 hL, ix_l2 h6 hL, ix_l3 h6 hL, ix_l4 h6 hL, w_tg (st_0 SH), w_tg (st_187 SH), q1, w_bd2, q2, if_true]
        exact nxt _ _ T2
      rw [if_neg z4]
      by_cases z5 : hI E.2.1 b (Int32.toNatClampNeg (nI i)) &&& 63 = 5
      · rw [if_pos z5]
        obtain ⟨r, h1, h2, q1, q2, T2⟩ := stepR (c5 (hI E.2.1 b (Int32.toNatClampNeg (nI i + 1))) (hI E.2.1 b (Int32.toNatClampNeg (nI i + 2)))) (fun g h r h' hf hc => ⟨_, pX12_read_fr hc (rz_B B) hf⟩) (fun g h r h' hf hc => ⟨_, pX13_read_fr hc (rz_M B) hf⟩) T
        simp only [ix_l1 h6 hL, ix_l2 h6 hL, w_tg (st_0 SH), w_tg (st_187 SH), q1, w_bd2, q2, lg_cmp_self, if_true]
        exact nxt _ _ T2
      rw [if_neg z5]
      by_cases z6 : hI E.2.1 b (Int32.toNatClampNeg (nI i)) &&& 63 = 6
      · rw [if_pos z6]
        obtain ⟨r, h1, h2, q1, q2, T2⟩ := stepR (c6 (hI E.2.1 b (Int32.toNatClampNeg (nI i + 1))) (hI E.2.1 b (Int32.toNatClampNeg (nI i + 2))) (hI E.2.1 b (Int32.toNatClampNeg (nI i + 3))) (hI E.2.1 b (Int32.toNatClampNeg (nI i + 4))) (hI E.2.1 b (Int32.toNatClampNeg (nI i + 5)))) (fun g h r h' hf hc => ⟨_, pX12_pour_fr hc (rz_B B) hf⟩) (fun g h r h' hf hc => ⟨_, pX13_pour_fr hc (rz_M B) hf⟩) T
        simp only [ix_l1 h6 hL, ix_l2 h6 hL, ix_l3 h6 hL, ix_l4 h6 hL, ix_l5 h6 hL, w_tg (st_0 SH), w_tg (st_187 SH), q1, w_bd2, q2, if_true]
        exact nxt _ _ T2
      rw [if_neg z6]
      by_cases z7 : hI E.2.1 b (Int32.toNatClampNeg (nI i)) &&& 63 = 7
      · rw [if_pos z7]
        obtain ⟨r, h1, h2, q1, q2, T2⟩ := stepR (c7 (hI E.2.1 b (Int32.toNatClampNeg (nI i + 1))) (hI E.2.1 b (Int32.toNatClampNeg (nI i + 2))) (hI E.2.1 b (Int32.toNatClampNeg (nI i + 3))) (hI E.2.1 b (Int32.toNatClampNeg (nI i + 4))) (hI E.2.1 b (Int32.toNatClampNeg (nI i + 5)))) (fun g h r h' hf hc => ⟨_, pX12_feed_fr hc (rz_B B) hf⟩) (fun g h r h' hf hc => ⟨_, pX13_feed_fr hc (rz_M B) hf⟩) T
        simp only [ix_l1 h6 hL, ix_l2 h6 hL, ix_l3 h6 hL, ix_l4 h6 hL, ix_l5 h6 hL, w_tg (st_0 SH), w_tg (st_187 SH), q1, w_bd2, q2, if_true]
        exact nxt _ _ T2
      rw [if_neg z7]
      by_cases z8 : hI E.2.1 b (Int32.toNatClampNeg (nI i)) &&& 63 = 8
      · rw [if_pos z8]
        obtain ⟨r, g1, h1, h2, q1, q2, T2, n1, n2⟩ := stepA (c8 (hI E.2.1 b (Int32.toNatClampNeg (nI i + 1)))) (fun g h r g' h' hf hN hc => ⟨_, pX12_program_fr (fun a ha z => by have := z.2; omega) hPE hc (rz_B B) hf⟩) (fun g h r h' hf hc => ⟨_, pX13_program_fr hc (rz_M B) hf⟩) T
        obtain ⟨g9, h9, y1, y2, y3, y4, y5⟩ := nxt _ _ T2
        refine ⟨g9, h9, ?_, y2, y3, Nat.le_trans n1 y4, Nat.le_trans n2 y5⟩
        simp only [ix_l1 h6 hL, w_tg (st_0 SH), w_tg (st_187 T2.1.1), q1, w_bd3, q2, w_bd2, hb2, w_tg hb1, if_true]
        rw [y1]
        exact w_gq ⟨y4, y5⟩
      rw [if_neg z8]
      by_cases z9 : hI E.2.1 b (Int32.toNatClampNeg (nI i)) &&& 63 = 9
      · rw [if_pos z9]
        obtain ⟨r, h2, q1, q2, T2⟩ := stepP (c9 (hI E.2.1 b (Int32.toNatClampNeg (nI i + 1)))) (fun g h r h' hf hc => ⟨_, pX13_fault_fr hc (rz_M B) hf⟩) T
        simp only [ix_l1 h6 hL, w_tg (st_0 SH), w_tg (st_187 SH), q1, w_bd, q2, w_bd2, if_true]
        exact nxt _ _ T2
      rw [if_neg z9]
      by_cases z10 : hI E.2.1 b (Int32.toNatClampNeg (nI i)) &&& 63 = 10
      · rw [if_pos z10]
        obtain ⟨r, h1, h2, q1, q2, T2⟩ := stepR (c10 (hI E.2.1 b (Int32.toNatClampNeg (nI i + 1)))) (fun g h r h' hf hc => ⟨_, pX12_many_fr hc (rz_B B) hf⟩) (fun g h r h' hf hc => ⟨_, pX13_many_fr hc (rz_M B) hf⟩) T
        simp only [ix_l1 h6 hL, w_tg (st_0 SH), w_tg (st_187 SH), q1, w_bd2, q2, if_true]
        exact nxt _ _ T2
      rw [if_neg z10]
      by_cases z11 : hI E.2.1 b (Int32.toNatClampNeg (nI i)) &&& 63 = 11
      · rw [if_pos z11]
        obtain ⟨r, h1, h2, q1, q2, T2⟩ := stepR (c11 (hI E.2.1 b (Int32.toNatClampNeg (nI i + 1))) (hI E.2.1 b (Int32.toNatClampNeg (nI i + 2)))) (fun g h r h' hf hc => ⟨_, pX12_element_fr hc (rz_B B) hf⟩) (fun g h r h' hf hc => ⟨_, pX13_element_fr hc (rz_M B) hf⟩) T
        simp only [ix_l1 h6 hL, ix_l2 h6 hL, w_tg (st_0 SH), w_tg (st_187 SH), q1, w_bd2, q2, if_true]
        exact nxt _ _ T2
      rw [if_neg z11]
      by_cases z12 : hI E.2.1 b (Int32.toNatClampNeg (nI i)) &&& 63 = 12
      · rw [if_pos z12]
        obtain ⟨r, h1, h2, q1, q2, T2⟩ := stepR (c12 (hI E.2.1 b (Int32.toNatClampNeg (nI i + 1)))) (fun g h r h' hf hc => ⟨_, pX12_scalar_fr hc (rz_B B) hf⟩) (fun g h r h' hf hc => ⟨_, pX13_scalar_fr hc (rz_M B) hf⟩) T
        simp only [ix_l1 h6 hL, w_tg (st_0 SH), w_tg (st_187 SH), q1, w_bd2, q2, if_true]
        exact nxt _ _ T2
      rw [if_neg z12]
      by_cases z13 : hI E.2.1 b (Int32.toNatClampNeg (nI i)) &&& 63 = 13
      · rw [if_pos z13]
        obtain ⟨r, h1, h2, q1, q2, T2⟩ := stepR (c13 (hI E.2.1 b (Int32.toNatClampNeg (nI i + 1)))) (fun g h r h' hf hc => ⟨_, pX12_word_fr hc (rz_B B) hf⟩) (fun g h r h' hf hc => ⟨_, pX13_word_fr hc (rz_M B) hf⟩) T
        simp only [ix_l1 h6 hL, w_tg (st_0 SH), w_tg (st_187 SH), q1, w_bd2, q2, if_true]
        exact nxt _ _ T2
      rw [if_neg z13]
      by_cases z14 : hI E.2.1 b (Int32.toNatClampNeg (nI i)) &&& 63 = 14
      · rw [if_pos z14]
        obtain ⟨r, h1, h2, q1, q2, T2⟩ := stepR (c14 (hI E.2.1 b (Int32.toNatClampNeg (nI i + 1))) (hI E.2.1 b (Int32.toNatClampNeg (nI i + 2))) (((Int32.toInt64 (hI E.2.1 b (Int32.toNatClampNeg (nI i + 3)))) <<< (Int32.toInt64 32 &&& 63)) ||| ((Int32.toInt64 (hI E.2.1 b (Int32.toNatClampNeg (nI i + 4)))) &&& 4294967295)) (hI E.2.1 b (Int32.toNatClampNeg (nI i + 5)))) (fun g h r h' hf hc => ⟨_, pX12_put_fr hc (rz_B B) hf⟩) (fun g h r h' hf hc => ⟨_, pX13_put_fr hc (rz_M B) hf⟩) T
        simp only [ix_l1 h6 hL, ix_l2 h6 hL, ix_l3 h6 hL, ix_l4 h6 hL, ix_l5 h6 hL, w_tg (st_0 SH), w_tg (st_187 SH), q1, w_bd2, q2, if_true]
        exact nxt _ _ T2
      rw [if_neg z14]
      by_cases z15 : hI E.2.1 b (Int32.toNatClampNeg (nI i)) &&& 63 = 15
      · rw [if_pos z15]
        obtain ⟨r, h1, h2, q1, q2, T2⟩ := stepR (c15 (hI E.2.1 b (Int32.toNatClampNeg (nI i + 1))) (((Int32.toInt64 (hI E.2.1 b (Int32.toNatClampNeg (nI i + 2)))) <<< (Int32.toInt64 32 &&& 63)) ||| ((Int32.toInt64 (hI E.2.1 b (Int32.toNatClampNeg (nI i + 3)))) &&& 4294967295)) (hI E.2.1 b (Int32.toNatClampNeg (nI i + 4)))) (fun g h r h' hf hc => ⟨_, pX12_give_fr hc (rz_B B) hf⟩) (fun g h r h' hf hc => ⟨_, pX13_give_fr hc (rz_M B) hf⟩) T
        simp only [ix_l1 h6 hL, ix_l2 h6 hL, ix_l3 h6 hL, ix_l4 h6 hL, w_tg (st_0 SH), w_tg (st_187 SH), q1, w_bd2, q2, if_true]
        exact nxt _ _ T2
      rw [if_neg z15]
      by_cases z16 : hI E.2.1 b (Int32.toNatClampNeg (nI i)) &&& 63 = 16
      · rw [if_pos z16]
        obtain ⟨r, h1, h2, q1, q2, T2⟩ := stepR (c16 (hI E.2.1 b (Int32.toNatClampNeg (nI i + 1))) (((Int32.toInt64 (hI E.2.1 b (Int32.toNatClampNeg (nI i + 2)))) <<< (Int32.toInt64 32 &&& 63)) ||| ((Int32.toInt64 (hI E.2.1 b (Int32.toNatClampNeg (nI i + 3)))) &&& 4294967295)) (hI E.2.1 b (Int32.toNatClampNeg (nI i + 4)))) (fun g h r h' hf hc => ⟨_, pX12_poke_fr hc (rz_B B) hf⟩) (fun g h r h' hf hc => ⟨_, pX13_poke_fr hc (rz_M B) hf⟩) T
        simp only [ix_l1 h6 hL, ix_l2 h6 hL, ix_l3 h6 hL, ix_l4 h6 hL, w_tg (st_0 SH), w_tg (st_187 SH), q1, w_bd2, q2, if_true]
        exact nxt _ _ T2
      rw [if_neg z16]
      by_cases z17 : hI E.2.1 b (Int32.toNatClampNeg (nI i)) &&& 63 = 17
      · rw [if_pos z17]
        obtain ⟨r, h1, h2, q1, q2, T2⟩ := stepR (c17 (hI E.2.1 b (Int32.toNatClampNeg (nI i + 1))) (hI E.2.1 b (Int32.toNatClampNeg (nI i + 2)))) (fun g h r h' hf hc => ⟨_, pX12_strange_fr hc (rz_B B) hf⟩) (fun g h r h' hf hc => ⟨_, pX13_strange_fr hc (rz_M B) hf⟩) T
        simp only [ix_l1 h6 hL, ix_l2 h6 hL, w_tg (st_0 SH), w_tg (st_187 SH), q1, w_bd2, q2, if_true]
        exact nxt _ _ T2
      rw [if_neg z17]
      by_cases z18 : hI E.2.1 b (Int32.toNatClampNeg (nI i)) &&& 63 = 18
      · rw [if_pos z18]
        obtain ⟨r, h1, h2, q1, q2, T2⟩ := stepR (c18 (hI E.2.1 b (Int32.toNatClampNeg (nI i + 1))) (hI E.2.1 b (Int32.toNatClampNeg (nI i + 2))) (hI E.2.1 b (Int32.toNatClampNeg (nI i + 3)))) (fun g h r h' hf hc => ⟨_, pX12_pokeAll_fr hc (rz_B B) hf⟩) (fun g h r h' hf hc => ⟨_, pX13_pokeAll_fr hc (rz_M B) hf⟩) T
        simp only [ix_l1 h6 hL, ix_l2 h6 hL, ix_l3 h6 hL, w_tg (st_0 SH), w_tg (st_187 SH), q1, w_bd2, q2, if_true]
        exact nxt _ _ T2
      rw [if_neg z18]
      by_cases z19 : hI E.2.1 b (Int32.toNatClampNeg (nI i)) &&& 63 = 19
      · rw [if_pos z19]
        obtain ⟨r, h1, h2, q1, q2, T2⟩ := stepR (c19 (hI E.2.1 b (Int32.toNatClampNeg (nI i + 1))) (hI E.2.1 b (Int32.toNatClampNeg (nI i + 2))) (hI E.2.1 b (Int32.toNatClampNeg (nI i + 3)))) (fun g h r h' hf hc => ⟨_, pX12_peekAll_fr hc (rz_B B) hf⟩) (fun g h r h' hf hc => ⟨_, pX13_peekAll_fr hc (rz_M B) hf⟩) T
        simp only [ix_l1 h6 hL, ix_l2 h6 hL, ix_l3 h6 hL, w_tg (st_0 SH), w_tg (st_187 SH), q1, w_bd2, q2, if_true]
        exact nxt _ _ T2
      rw [if_neg z19]
      by_cases z20 : hI E.2.1 b (Int32.toNatClampNeg (nI i)) &&& 63 = 20
      · rw [if_pos z20]
        obtain ⟨r, h1, h2, q1, q2, T2⟩ := stepR (c20 (hI E.2.1 b (Int32.toNatClampNeg (nI i + 1)))) (fun g h r h' hf hc => ⟨_, pX12_drop_fr hc (rz_B B) hf⟩) (fun g h r h' hf hc => ⟨_, pX13_drop_fr hc (rz_M B) hf⟩) T
        simp only [ix_l1 h6 hL, w_tg (st_0 SH), w_tg (st_187 SH), q1, w_bd2, q2, if_true]
        exact nxt _ _ T2
      rw [if_neg z20]
      by_cases z21 : hI E.2.1 b (Int32.toNatClampNeg (nI i)) &&& 63 = 21
      · rw [if_pos z21]
        obtain ⟨r, h1, h2, q1, q2, T2⟩ := stepR (c21 (hI E.2.1 b (Int32.toNatClampNeg (nI i + 1))) (hI E.2.1 b (Int32.toNatClampNeg (nI i + 2)))) (fun g h r h' hf hc => ⟨_, pX12_rule_fr hc (rz_B B) hf⟩) (fun g h r h' hf hc => ⟨_, pX13_rule_fr hc (rz_M B) hf⟩) T
        simp only [ix_l1 h6 hL, ix_l2 h6 hL, w_tg (st_0 SH), w_tg (st_187 SH), q1, w_bd2, q2, if_true]
        exact nxt _ _ T2
      rw [if_neg z21]
      by_cases z22 : hI E.2.1 b (Int32.toNatClampNeg (nI i)) &&& 63 = 22
      · rw [if_pos z22]
        obtain ⟨r, h1, h2, q1, q2, T2⟩ := stepR c22 (fun g h r h' hf hc => ⟨_, pX12_run_fr hPE hc (rz_B B) hf⟩) (fun g h r h' hf hc => ⟨_, pX13_run_fr hc (rz_M B) hf⟩) T
        simp only [ w_tg (st_0 SH), w_tg (st_187 SH), q1, w_bd2, q2, if_true]
        exact nxt _ _ T2
      rw [if_neg z22]
      by_cases z23 : hI E.2.1 b (Int32.toNatClampNeg (nI i)) &&& 63 = 23
      · rw [if_pos z23]
        obtain ⟨r, h1, h2, q1, q2, T2⟩ := stepR (c23 (hI E.2.1 b (Int32.toNatClampNeg (nI i + 1)))) (fun g h r h' hf hc => ⟨_, pX12_ran_fr hc (rz_B B) hf⟩) (fun g h r h' hf hc => ⟨_, pX13_ran_fr hc (rz_M B) hf⟩) T
        simp only [ix_l1 h6 hL, w_tg (st_0 SH), w_tg (st_187 SH), q1, w_bd2, q2, if_true]
        exact nxt _ _ T2
      rw [if_neg z23]
      by_cases z24 : hI E.2.1 b (Int32.toNatClampNeg (nI i)) &&& 63 = 24
      · rw [if_pos z24]
        obtain ⟨r, h1, h2, q1, q2, T2⟩ := stepR (c24 (hI E.2.1 b (Int32.toNatClampNeg (nI i + 1))) (hI E.2.1 b (Int32.toNatClampNeg (nI i + 2)))) (fun g h r h' hf hc => ⟨_, pX12_time_fr hc (rz_B B) hf⟩) (fun g h r h' hf hc => ⟨_, pX13_time_fr hc (rz_M B) hf⟩) T
        simp only [ix_l1 h6 hL, ix_l2 h6 hL, w_tg (st_0 SH), w_tg (st_187 SH), q1, w_bd2, q2, if_true]
        exact nxt _ _ T2
      rw [if_neg z24]
      by_cases z25 : hI E.2.1 b (Int32.toNatClampNeg (nI i)) &&& 63 = 25
      · rw [if_pos z25]
        obtain ⟨r, h1, h2, q1, q2, T2⟩ := stepR (c25 (hI E.2.1 b (Int32.toNatClampNeg (nI i + 1))) (hI E.2.1 b (Int32.toNatClampNeg (nI i + 2)))) (fun g h r h' hf hc => ⟨_, pX12_sum_fr hc (rz_B B) hf⟩) (fun g h r h' hf hc => ⟨_, pX13_sum_fr hc (rz_M B) hf⟩) T
        simp only [ix_l1 h6 hL, ix_l2 h6 hL, w_tg (st_0 SH), w_tg (st_187 SH), q1, w_bd2, q2, if_true]
        exact nxt _ _ T2
      rw [if_neg z25]
      by_cases z26 : hI E.2.1 b (Int32.toNatClampNeg (nI i)) &&& 63 = 26
      · rw [if_pos z26]
        obtain ⟨r, h1, h2, q1, q2, T2⟩ := stepR (c26 (hI E.2.1 b (Int32.toNatClampNeg (nI i + 1)))) (fun g h r h' hf hc => ⟨_, pX12_sums_fr hc (rz_B B) hf⟩) (fun g h r h' hf hc => ⟨_, pX13_sums_fr hc (rz_M B) hf⟩) T
        simp only [ix_l1 h6 hL, w_tg (st_0 SH), w_tg (st_187 SH), q1, w_bd2, q2, if_true]
        exact nxt _ _ T2
      rw [if_neg z26]
      by_cases z27 : hI E.2.1 b (Int32.toNatClampNeg (nI i)) &&& 63 = 27
      · rw [if_pos z27]
        obtain ⟨r, h1, h2, q1, q2, T2⟩ := stepR (c27 (hI E.2.1 b (Int32.toNatClampNeg (nI i + 1))) (hI E.2.1 b (Int32.toNatClampNeg (nI i + 2)))) (fun g h r h' hf hc => ⟨_, pX12_roundOf_fr hc (rz_B B) hf⟩) (fun g h r h' hf hc => ⟨_, pX13_roundOf_fr hc (rz_M B) hf⟩) T
        simp only [ix_l1 h6 hL, ix_l2 h6 hL, w_tg (st_0 SH), w_tg (st_187 SH), q1, w_bd2, q2, if_true]
        exact nxt _ _ T2
      rw [if_neg z27]
      by_cases z28 : hI E.2.1 b (Int32.toNatClampNeg (nI i)) &&& 63 = 28
      · rw [if_pos z28]
        obtain ⟨r, h1, h2, q1, q2, T2⟩ := stepR (c28 (hI E.2.1 b (Int32.toNatClampNeg (nI i + 1))) (hI E.2.1 b (Int32.toNatClampNeg (nI i + 2)))) (fun g h r h' hf hc => ⟨_, pX12_partnerOf_fr hc (rz_B B) hf⟩) (fun g h r h' hf hc => ⟨_, pX13_partnerOf_fr hc (rz_M B) hf⟩) T
        simp only [ix_l1 h6 hL, ix_l2 h6 hL, w_tg (st_0 SH), w_tg (st_187 SH), q1, w_bd2, q2, if_true]
        exact nxt _ _ T2
      rw [if_neg z28]
      by_cases z29 : hI E.2.1 b (Int32.toNatClampNeg (nI i)) &&& 63 = 29
      · rw [if_pos z29]
        obtain ⟨r, h1, h2, q1, q2, T2⟩ := stepR (c29 (hI E.2.1 b (Int32.toNatClampNeg (nI i + 1))) (hI E.2.1 b (Int32.toNatClampNeg (nI i + 2))) (hI E.2.1 b (Int32.toNatClampNeg (nI i + 3)))) (fun g h r h' hf hc => ⟨_, pX12_stalls_fr hc (rz_B B) hf⟩) (fun g h r h' hf hc => ⟨_, pX13_stalls_fr hc (rz_M B) hf⟩) T
        simp only [ix_l1 h6 hL, ix_l2 h6 hL, ix_l3 h6 hL, w_tg (st_0 SH), w_tg (st_187 SH), q1, w_bd2, q2, if_true]
        exact nxt _ _ T2
      rw [if_neg z29]
      by_cases z30 : hI E.2.1 b (Int32.toNatClampNeg (nI i)) &&& 63 = 30
      · rw [if_pos z30]
        obtain ⟨r, h1, h2, q1, q2, T2⟩ := stepR (c30 (hI E.2.1 b (Int32.toNatClampNeg (nI i + 1))) (hI E.2.1 b (Int32.toNatClampNeg (nI i + 2))) (hI E.2.1 b (Int32.toNatClampNeg (nI i + 3)))) (fun g h r h' hf hc => ⟨_, pX12_banksFor_fr hc (rz_B B) hf⟩) (fun g h r h' hf hc => ⟨_, pX13_banksFor_fr hc (rz_M B) hf⟩) T
        simp only [ix_l1 h6 hL, ix_l2 h6 hL, ix_l3 h6 hL, w_tg (st_0 SH), w_tg (st_187 SH), q1, w_bd2, q2, if_true]
        exact nxt _ _ T2
      rw [if_neg z30]
      by_cases z31 : hI E.2.1 b (Int32.toNatClampNeg (nI i)) &&& 63 = 31
      · rw [if_pos z31]
        obtain ⟨r, h1, h2, q1, q2, T2⟩ := stepR (c31 (hI E.2.1 b (Int32.toNatClampNeg (nI i + 1))) (hI E.2.1 b (Int32.toNatClampNeg (nI i + 2)))) (fun g h r h' hf hc => ⟨_, pX12_worst_fr hc (rz_B B) hf⟩) (fun g h r h' hf hc => ⟨_, pX13_worst_fr hc (rz_M B) hf⟩) T
        simp only [ix_l1 h6 hL, ix_l2 h6 hL, w_tg (st_0 SH), w_tg (st_187 SH), q1, w_bd2, q2, if_true]
        exact nxt _ _ T2
      rw [if_neg z31]
      by_cases z32 : hI E.2.1 b (Int32.toNatClampNeg (nI i)) &&& 63 = 32
      · rw [if_pos z32]
        obtain ⟨r, h1, h2, q1, q2, T2⟩ := stepR (c32 (hI E.2.1 b (Int32.toNatClampNeg (nI i + 1))) (hI E.2.1 b (Int32.toNatClampNeg (nI i + 2)))) (fun g h r h' hf hc => ⟨_, pX12_depends_fr hPE hc (rz_B B) hf⟩) (fun g h r h' hf hc => ⟨_, pX13_depends_fr hc (rz_M B) hf⟩) T
        simp only [ix_l1 h6 hL, ix_l2 h6 hL, w_tg (st_0 SH), w_tg (st_187 SH), q1, w_bd2, q2, if_true]
        exact nxt _ _ T2
      rw [if_neg z32]
      by_cases z33 : hI E.2.1 b (Int32.toNatClampNeg (nI i)) &&& 63 = 33
      · rw [if_pos z33]
        obtain ⟨r, h1, h2, q1, q2, T2⟩ := stepR (c33 (hI E.2.1 b (Int32.toNatClampNeg (nI i + 1)))) (fun g h r h' hf hc => ⟨_, pX12_swapGain_fr hPE hc (rz_B B) hf⟩) (fun g h r h' hf hc => ⟨_, pX13_swapGain_fr hc (rz_M B) hf⟩) T
        simp only [ix_l1 h6 hL, w_tg (st_0 SH), w_tg (st_187 SH), q1, w_bd2, q2, if_true]
        exact nxt _ _ T2
      rw [if_neg z33]
      by_cases z34 : hI E.2.1 b (Int32.toNatClampNeg (nI i)) &&& 63 = 34
      · rw [if_pos z34]
        obtain ⟨r, h1, h2, q1, q2, T2⟩ := stepR c34 (fun g h r h' hf hc => ⟨_, pX12_bestSwap_fr hPE hc (rz_B B) hf⟩) (fun g h r h' hf hc => ⟨_, pX13_bestSwap_fr hc (rz_M B) hf⟩) T
        simp only [ w_tg (st_0 SH), w_tg (st_187 SH), q1, w_bd2, q2, if_true]
        exact nxt _ _ T2
      rw [if_neg z34]
      by_cases z35 : hI E.2.1 b (Int32.toNatClampNeg (nI i)) &&& 63 = 35
      · rw [if_pos z35]
        obtain ⟨r, h1, h2, q1, q2, T2⟩ := stepR c35 (fun g h r h' hf hc => ⟨_, pX12_mark_fr hc (rz_B B) hf⟩) (fun g h r h' hf hc => ⟨_, pX13_mark_fr hc (rz_M B) hf⟩) T
        simp only [ w_tg (st_0 SH), w_tg (st_187 SH), q1, w_bd2, q2, if_true]
        exact nxt _ _ T2
      rw [if_neg z35]
      by_cases z36 : hI E.2.1 b (Int32.toNatClampNeg (nI i)) &&& 63 = 36
      · rw [if_pos z36]
        obtain ⟨r, h1, h2, q1, q2, T2⟩ := stepR c36 (fun g h r h' hf hc => ⟨_, pX12_back_fr hc (rz_B B) hf⟩) (fun g h r h' hf hc => ⟨_, pX13_back_fr hc (rz_M B) hf⟩) T
        simp only [ w_tg (st_0 SH), w_tg (st_187 SH), q1, w_bd2, q2, if_true]
        exact nxt _ _ T2
      rw [if_neg z36]
      exact nxt _ _ ⟨T.1, T.2.1, T.2.2.1, by have := T.2.2.2.1; omega, by have := T.2.2.2.2.1; omega, T.2.2.2.2.2⟩
    · have hlt : (Int32.ofNat L) - 6 < nI i := by
        rw [Int32.lt_iff_toInt_lt, show ((Int32.ofNat L - 6 : Int32)).toInt = (L : Int) - (6 : Nat) from pk_sub_toInt (a := L) (b := 6) (by omega) (by omega), nI_toInt (by omega)]
        omega
      rw [if_pos hlt]
      exact ⟨g, h, rfl, by have := T.2.2.2.1; omega, by have := T.2.2.2.2; omega, Nat.le_refl _, Nat.le_refl _⟩
