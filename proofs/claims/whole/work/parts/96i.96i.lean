/-! all of a run, in both -/
section BRUN
variable {B b L : Nat} {E : EC} {xs : Nat → Int32} {op st bt : Nat → Nat} {aL aS aO : Nat} {g : MT} {h h' h1 h2 hr hr' hr1 : CT} {q z p pp : Nat} {π : Pg} {k n nb y t T : Nat}
/-- the class's cells that a run writes, with what it sets up -/
def BFr (B q z : Nat) (h h' : CT) : Prop := (∀ x k, ¬ (x = B + 132 ∧ 4 ≤ k ∧ k ≤ 6) → hR h' x k = hR h x k) ∧ (∀ w, (w < q ∨ q + 26 < w) → (w < z ∨ z + 6 < w) → (w < B + 130 ∨ B + 137 < w ∨ w = B + 131) → hI h' w = hI h w ∧ hL h' w = hL h w ∧ hD h' w = hD h w) ∧ (∀ k, k ≠ 4 → hI h' (B + 130) k = hI h (B + 130) k) ∧ (∀ k, k ≠ 3 → hL h' (B + 130) k = hL h (B + 130) k) ∧ SC B h'
theorem no_132_46 : ∀ q ∈ spC, ¬ (q.1 = 132 ∧ 4 ≤ q.2.1 ∧ q.2.1 ≤ 6) := by decide +kernel
theorem BFr.ptc (x : BFr B q z h h') (p : PtC B (hR h)) : PtC B (hR h') := fun w hw => by
  rw [x.1 _ _ (fun c => no_132_46 w hw ⟨by omega, c.2⟩)]; exact p w hw
theorem both_run (K : EOK E b L xs op st bt aL aS aO) (S : Sh B g) (Q : QZ B q z) (wf : WF π) (pC : PtC B (hR h)) (p2 : PtR B (hR hr)) (pow : PowR B h) (sc : SC B h) (D : DM B q h hr) (PC : PgC op g h pp π) (PM : PgM (hI hr (B + 192)) 0 π) (epp : hR h q 8 = some pp) :
    ∃ h' hr' y, (1 ≤ y ∧ y ≤ 12 ∧ hI hr (B + 192) 2 = nI y) ∧ pX9_perform E g h (B + 132) q z = some h' ∧ pX13_runs g hr (B + 187) = some hr' ∧ EN B q z y (300 * (14 * π.1)) h' hr' ∧ BFr B q z h h' ∧ MFr B hr hr' := by
  have h30 := wf.1
  have DD := D
  obtain ⟨-, ⟨nb, nb1, nb2, e6, v1⟩, ⟨y, y1, y2, e7, v2⟩, -⟩ := DD
  generalize hx : sR (sR h (B + 132) 4 (some q)) (B + 132) 5 (some z) = ha
  have aR : ∀ x k, hR ha x k = if x = B + 132 then (if k = 5 then some z else if k = 4 then some q else hR h x k) else hR h x k := fun x k => by
    rw [← hx]
    simp only [hR_sR]
    by_cases c : x = B + 132
    · subst c
      simp only [if_true, ud]
    · rw [if_neg c, if_neg c, if_neg c]
  have aI : hI ha = hI h := by rw [← hx]; rfl
  have aL' : hL ha = hL h := by rw [← hx]; rfl
  have aD : hD ha = hD h := by rw [← hx]; rfl
  have aRn : ∀ x k, ¬ (x = B + 132 ∧ 4 ≤ k ∧ k ≤ 6) → hR ha x k = hR h x k := fun x k c => by
    rw [aR]
    by_cases c1 : x = B + 132
    · rw [if_pos c1, if_neg (by omega), if_neg (by omega)]
    · rw [if_neg c1]
  have pA : PtC B (hR ha) := fun w hw => by
    rw [aRn _ _ (fun c => no_132_46 w hw ⟨by omega, c.2⟩)]; exact pC w hw
  have mA : MachA g (hR ha) q := by
    rcases Q with ⟨w, -⟩ | ⟨w, -⟩
    · rw [w]; exact machA_13 S pA
    · rw [w]; exact machA_145 S pA
  have tA : TimA g (hR ha) z := by
    rcases Q with ⟨-, w⟩ | ⟨-, w⟩
    · rw [w]; exact timA_138 S pA
    · rw [w]; exact timA_176 S pA
  obtain ⟨h5, c1, c2, ⟨c3, c4⟩, c5⟩ := t_clear tA
  obtain ⟨hr5, r1, r2, r3, ⟨r4, r5⟩, r6, r7, r8⟩ := r_init (y := y) S p2 PM.1
  generalize hy : sI (sR h5 (B + 132) 6 none) (B + 132) 9 0 = hs
  have sR' : ∀ x k, hR hs x k = if x = B + 132 ∧ k = 6 then none else hR ha x k := fun x k => by
    rw [← hy, hR_sI, hR_sR, c3]
    by_cases c : x = B + 132
    · subst c
      rw [if_pos rfl]
      unfold ud
      by_cases c6 : k = 6
      · rw [if_pos c6, if_pos ⟨rfl, c6⟩]
      · rw [if_neg c6, if_neg (fun w => c6 w.2)]
    · rw [if_neg c, if_neg (fun w => c w.1)]
  have sI' : ∀ w, w ≠ B + 132 → hI hs w = hI h5 w := fun w c => by rw [← hy, hI_sI, if_neg c]; rfl
  have sIz : ∀ w, z ≤ w → w ≤ z + 6 → hI hs w = hI h5 w := fun w a c => sI' w (by omega)
  have sO : ∀ w, (w < z ∨ z + 6 < w) → w ≠ B + 132 → hI hs w = hI h w := fun w a c => by rw [sI' w c, (c4 w a).1, aI]
  have sL' : ∀ w, (w < z ∨ z + 6 < w) → hL hs w = hL h w := fun w a => by
    rw [← hy]
    exact ((c4 w a).2.1).trans (by rw [aL'])
  have sD' : ∀ w, (w < z ∨ z + 6 < w) → hD hs w = hD h w := fun w a => by
    rw [← hy]
    exact ((c4 w a).2.2.1).trans (by rw [aD])
  have rn : ∀ x k, ¬ (x = B + 132 ∧ 4 ≤ k ∧ k ≤ 6) → hR hs x k = hR h x k := fun x k c => by rw [sR', if_neg (by omega), aRn x k c]
  have s9 : hI hs (B + 132) 9 = 0 := by rw [← hy, hI_s]
  have pS : PtC B (hR hs) := fun w hw => by
    rw [rn _ _ (fun c => no_132_46 w hw ⟨by omega, c.2⟩)]; exact pC w hw
  have scS : SC B hs := ⟨by rw [sO _ (by omega) (by omega)]; exact sc.1, by rw [sO _ (by omega) (by omega)]; exact sc.2⟩
  have mS : MachA g (hR hs) q := by
    rcases Q with ⟨w, -⟩ | ⟨w, -⟩
    · rw [w]; exact machA_13 S pS
    · rw [w]; exact machA_145 S pS
  have tS : TimA g (hR hs) z := by
    rcases Q with ⟨-, w⟩ | ⟨-, w⟩
    · rw [w]; exact timA_138 S pS
    · rw [w]; exact timA_176 S pS
  have RS : RunC B q z g hs := ⟨pS, by rw [sR', if_neg (by omega), aR, if_pos rfl]; rfl, by rw [sR', if_neg (by omega), aR, if_pos rfl]; rfl, mS, tS, fun k hk => by rw [sD' _ (by omega)]; exact pow k hk, scS⟩
  have DS : DM B q hs hr5 := MacD.keep2 (hc := h) (cc := hI hr (B + 192)) (vv := hD hr (B + 193)) (fun j hj => ⟨sO _ (by omega) (by omega), sD' _ (by omega)⟩) (fun _ _ _ => by rw [r4]) (fun _ _ _ => by rw [r5]) D
  have eqj : hI hs q = hI h q := sO q (by omega) (by omega)
  have X : RV B q z op g pp π nb y (300 * 0) hs hr5 (fun _ _ => 0) (fun _ _ => -1) := ⟨⟨RS, by rw [r3.1]; exact p2, DS, ⟨by rw [eqj]; exact e6, by rw [eqj]; exact e7⟩, ⟨by rw [r4]; exact v1, by rw [r4]; exact v2⟩, by rw [r6, s9], r7, r8⟩, c2.rw sIz, r2, fun _ _ => Nat.zero_le _, fun _ => Nat.zero_le _, fun _ _ => Or.inl ⟨rfl, rfl⟩, PC.kp S Q (fun w a c d => sO w c (by omega)) (fun x hx => funext fun k => rn x k (fun w => hx w.1)), r3.pg h30 PM, by rw [sIz z (by omega) (by omega)]; exact c5, by rw [rn _ _ (by omega)]; exact epp⟩
  obtain ⟨h', hr', u1, u2, u3, u4, u5⟩ := topl K S Q wf nb1 nb2 y1 y2 (fO := pX13_doAll_r g 39) (fO' := pX13_doAll_r g 38) (fun h a b => by
    show pX13_doAll_o g (pX13_doAll_r g 38) h (B + 187) a b = _
    unfold pX13_doAll_o
    rw [w_tg (st_187 S)]) 0 π.1 π.1 0 0 hs hr5 _ _ (Nat.le_refl _) (by omega) (by omega) X (by rw [sR', if_pos ⟨rfl, rfl⟩]) s9
  refine ⟨h', hr', y, ⟨y1, y2, v2⟩, ?_, ?_, by rw [show 300 * (14 * π.1) = 300 * (0 + 14 * π.1) by omega]; exact u3, ⟨fun x k c => (u4.1 x k (by omega)).trans (rn x k c), fun w a c d => ?_, fun k hk => (u4.2.2.1 k hk).trans (by rw [sO _ (by omega) (by omega)]), fun k hk => (u4.2.2.2.1 k hk).trans (by rw [sL' _ (by omega)]), u4.2.2.2.2⟩, r3.tr u5⟩
  · unfold pX9_perform
    rw [w_tg (st_132 S), w_lt, w_lt, w_lt, hx, aR, if_pos rfl, if_pos rfl, w_nn, w_tg tA.1, c1, w_bd, w_lt, w_lt, hy]
    exact u1 FUEL (by
      have : (2000 : Nat) ≤ FUEL := by decide
      omega)
  · rw [r1]
    have e : pX13_doAll g hr5 (B + 187) 0 (nI π.1) = pX13_doAll_o_l2 g (pX13_doAll_r g 39) (B + 187) 0 (nI π.1) FUEL (nI 0) hr5 := by
      show pX13_doAll_o g (pX13_doAll_r g 39) hr5 (B + 187) 0 (nI π.1) = _
      unfold pX13_doAll_o
      rw [w_tg (st_187 S)]
      rfl
    rw [e, u2 FUEL (by
      have : (2000 : Nat) ≤ FUEL := by decide
      omega), w_bd]
  · have a1 := u4.2.1 w a c d
    have nz : w ≠ B + 132 := by omega
    exact ⟨a1.1.trans (sO w c nz), a1.2.1.trans (sL' w c), a1.2.2.trans (sD' w c)⟩
end BRUN
