/-! both tell a NUMBER: tellOf, tells -/
theorem kindOf_0 {x : UInt64} (h : pX13_kindOf x = 0) : FP.dIsNaN x = false ∧ KD x ≠ 0 ∧ ¬ isInf x := by
  unfold pX13_kindOf at h
  simp only [cmp_self0] at h
  by_cases n : FP.dIsNaN x = false
  · rw [if_pos n] at h
    simp only [fc_eq n nn_0, kd_0, fsub_self0 n] at h
    by_cases c : KD x = 0
    · rw [if_pos c] at h
      split at h <;> cases h
    · rw [if_neg c] at h
      by_cases i : isInf x
      · rw [if_neg (fun z => z i)] at h
        split at h <;> cases h
      · exact ⟨n, c, i⟩
  · rw [if_neg n] at h; cases h
theorem kindOf_le (x : UInt64) : (pX13_kindOf x ≤ 0) = (pX13_kindOf x = 0) := by
  have : pX13_kindOf x = 0 ∨ pX13_kindOf x = 1 ∨ pX13_kindOf x = 2 ∨ pX13_kindOf x = 3 ∨ pX13_kindOf x = 4 ∨ pX13_kindOf x = 5 := by
    unfold pX13_kindOf
    repeat' split
    all_goals simp
  rcases this with h | h | h | h | h | h <;> rw [h] <;> decide
section TOF
variable {B : Nat} {E : EC} {op : Nat → Nat} {g : MT} {hc hr : CT}
theorem SpH_of (S : Sh B g) (p : PtC B (hR hc)) (r : PowR B hc) : SpH g hc (B + 130) (B + 131) := ⟨st_130 S, st_131 S, sl_131 S, pc_130_2 p, r⟩
theorem told_both (H : Rel B op g (sI hc B 19 0) hr) {b : Nat} (hb : b = B + 184 ∨ b = B + 185 ∨ b = B + 186 ∨ b = B + 183) {x : UInt64} (N : NumR (hD hc b 0) (hI hc b 1) x) :
    ∃ k hc' hr', pX12_tellOf g hc B b = some (k, hc') ∧ pX13_tells g hr (B + 187) x = some (k, hr') ∧ Rel B op g hc' hr' := by
  have S := H.1
  have p1 : PtC B (hR hc) := H.2.1
  have Tb : gT g b = 4 := by
    rcases hb with rfl | rfl | rfl | rfl
    · exact st_184 S
    · exact st_185 S
    · exact st_186 S
    · exact st_183 S
  have hk := n_kind (h := hc) Tb N
  have key : ∃ k M E hc1 hr1, pX1_tellKind g hc (B + 130) b = some (k, hc1) ∧ pX13_tells g hr (B + 187) x = some (k, hr1) ∧ But1 (B + 130) hc hc1 ∧ But1 (B + 187) hr hr1 ∧ hL hc1 (B + 130) 0 = M ∧ hI hc1 (B + 130) 1 = E ∧ hL hr1 (B + 187) 2 = M ∧ hI hr1 (B + 187) 3 = E ∧ ∀ j, j ≠ 3 → hI hr1 (B + 187) j = hI hr (B + 187) j := by
    by_cases c : pX13_kindOf x = 0
    · obtain ⟨n, c0, ci⟩ := kindOf_0 c
      have o0 : hI hc b 1 = 0 := by
        rcases N.1 with z | z
        · exact z
        · have := N.x1 (show ¬ hI hc b 1 = 0 by rw [z]; decide)
          rw [this, NaNc_nan] at n; cases n
      have xv : x = hD hc b 0 := N.x0 o0
      obtain ⟨s, z, D, hz⟩ := DV_of n ci
      have h0 : 0 < z := by
        rcases Nat.eq_zero_or_pos z with e | e
        · subst e
          obtain ⟨cc, q, hq, e⟩ := D
          exfalso
          refine c0 (kd_zero.mp ⟨s, q, ?_⟩)
          have : cc = 0 := by
            unfold FP.Core.inUnits at e
            rcases Nat.mul_eq_zero.mp e with e | e
            · exact e
            · have := two_pos (q - FP.Core.b64.qmin).toNat; omega
          rw [hq, this]
        · exact e
      have hk0 : pX4_kind g hc b = some 0 := by rw [hk, c]
      obtain ⟨M, E, n1, e1, x1, y1, O1, M1, E1, r1⟩ := tellKind_0 (SpH_of S p1 H.2.2.2.2.1) Tb (by omega) o0 (by rw [← xv]; exact D) h0 hz hk0
      obtain ⟨M', E', n2, e2, O2, M2, E2, r2⟩ := tells_0 (g := g) (h := hr) (a := B + 187) (st_187 S) c D h0 hz
      obtain ⟨u1, u2⟩ := O1.uni O2
      subst u1 u2
      have eM : M = M' := Int64.toInt_inj.mp (M1.trans M2.symm)
      subst eM E1 E2
      refine ⟨0, M, _, _, _, r1, r2, ((((((But1.rf _ hc).stL).stI).stI).stL).stL).stI, ((((But1.rf _ hr).stL).stI).stL).stI, ?_, hI_s _ _ _ _, ?_, hI_s _ _ _ _, fun j hj => ?_⟩
      · exact hL_s _ _ _ _
      · exact hL_s _ _ _ _
      · rw [hI_sI, if_pos rfl, ud_n hj, hI_sL, hI_sI, if_pos rfl, ud_n hj, hI_sL]
    · refine ⟨pX13_kindOf x, 0, 0, sI (sL hc (B + 130) 0 0) (B + 130) 1 0, sI (sL hr (B + 187) 2 0) (B + 187) 3 0, ?_, ?_, ((But1.rf _ hc).stL).stI, ((But1.rf _ hr).stL).stI, ?_, hI_s _ _ _ _, ?_, hI_s _ _ _ _, fun j hj => ?_⟩
      · unfold pX1_tellKind
        simp only [w_tg (st_130 S), w_tg Tb, hk, w_bd, w_lt]
        rw [if_neg c]
      · unfold pX13_tells
        simp only [w_tg (st_187 S), w_lt, kindOf_le]
        rw [if_neg c]
      · exact hL_s _ _ _ _
      · exact hL_s _ _ _ _
      · rw [hI_sI, if_pos rfl, ud_n hj, hI_sL]
  obtain ⟨k, M, E, hc1, hr1, t1, t2, b1, b2, f1, f2, f3, f4, f5⟩ := key
  refine ⟨k, sI hc1 B 19 0, hr1, ?_, t2, ?_⟩
  · unfold pX12_tellOf
    simp only [w_tg (st_0 S), w_lt, pc_0_14 p1, w_nn, w_tg (st_130 S), t1, w_bd2]
    rw [k_answer S, w_bd2]
  · have o : OfC B [130] (sI hc B 19 0) (sI hc1 B 19 0) := fun y z1 z2 => by
      have e := b1.2 y (z2 130 (by simp))
      refine ⟨?_, e.2.1, e.2.2.1, e.2.2.2⟩
      rw [hI_sI, hI_sI]
      by_cases c : y = B
      · rw [if_pos c, if_pos c, (b1.2 B (by omega)).1]
      · rw [if_neg c, if_neg c]; exact e.1
    have eB : hI hc1 B = hI hc B := (b1.2 B (by omega)).1
    have eB' : hI (sI hc1 B 19 0) B = hI (sI hc B 19 0) B := by rw [hI_sI, hI_sI, if_pos rfl, if_pos rfl, eB]
    refine H.obj (W := [130]) (W' := [187]) o (fun y z1 z2 => b2.2 y (z2 187 (by simp))) rfl rfl rfl (by rw [hR_sI, b1.1]; exact p1) (by rw [b2.1]; exact H.2.2.1) (by rw [eB']) (by rw [eB']) (by rw [eB']) (by rw [eB']) ?_ ?_
    · obtain ⟨q1, q2, q3, q4, q5, q6, q7, q8, q9⟩ := H.2.2.2.1
      refine ⟨?_, ?_, ?_, ?_, ?_, ?_, ?_, ?_, ?_⟩
      · rw [eB', f5 _ (by decide)]; exact q1
      · rw [eB', f5 _ (by decide)]; exact q2
      · rw [eB', f5 _ (by decide)]; exact q3
      · rw [eB', f5 _ (by decide)]; exact q4
      · rw [eB', f5 _ (by decide)]; exact q5
      · rw [hL_sI, f1, f3]
      · rw [hI_sI, if_neg (by omega), f2, f4]
      · rw [(o (B + 11) (fun z => by have := z.1; omega) (by simp)).1, f5 _ (by decide)]; exact q8
      · rw [(o (B + 11) (fun z => by have := z.1; omega) (by simp)).1, f5 _ (by decide)]; exact q9
    · exact ScrR.same H.2.2.2.2.2.2.2.2.2.2 fun n hn => (o (B + n) (fun z => by have := z.1; omega) (by simp; omega)).1
end TOF
