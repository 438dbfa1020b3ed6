/-! what a division leaves -/
section DRF
variable {B : Nat} {g : MT} {h : CT} {q z : Nat}
def absK (v : UInt64) : UInt64 := if 0 ≤ KD v then v else fneg v
theorem abs_kd {v : UInt64} (n : FP.dIsNaN v = false) : FP.dIsNaN (absK v) = false ∧ KD (absK v) = if 0 ≤ KD v then KD v else - KD v := by
  unfold absK
  by_cases c : 0 ≤ KD v
  · rw [if_pos c, if_pos c]; exact ⟨n, rfl⟩
  · rw [if_neg c, if_neg c, fneg_nn n]; exact ⟨neg_nn n, kd_neg⟩
theorem abs_dv {v : UInt64} {s : Bool} {zz : Nat} (D : DV v s zz) (h0 : 0 < zz) : DV (absK v) false zz := by
  unfold absK
  cases s with
  | false => rw [if_pos ((KD_sg D h0).mpr rfl)]; exact D
  | true => rw [if_neg (fun x => by have := (KD_sg D h0).mp x; cases this)]; exact D.neg
theorem dv_pos {v : UInt64} {s : Bool} {zz : Nat} (D : DV v s zz) : KD v ≠ 0 ↔ 0 < zz := by
  constructor
  · intro k
    refine Nat.pos_of_ne_zero fun e => k ?_
    subst e
    obtain ⟨c, r, h, c1, q1, q2, q3, e⟩ := D.fit
    have z1 : c = 0 := (Nat.mul_eq_zero.mp e.symm).resolve_right (Nat.ne_of_gt (two_pos _))
    subst z1
    exact kd_zero.mp ⟨s, r, h⟩
  · intro h0 k
    obtain ⟨t, r, hq⟩ := kd_zero.mpr k
    have : DV v t 0 := ⟨0, r, hq, by simp [FP.Core.inUnits]⟩
    have := (D.uni this).2
    omega
theorem drem_dv {a b : UInt64} {s t : Bool} {x w : Nat} (D : DV a s x) (E : DV b t w) (hw : 0 < w) : DV (frem a b) s (x % w) := by
  obtain ⟨c, p, h1, e1⟩ := D
  obtain ⟨d, r, h2, e2⟩ := E
  obtain ⟨c', q', u1, u2⟩ := FP.Core.drem_exact h1 h2 (fun e => by
    subst e
    rw [← e2] at hw
    simp [FP.Core.inUnits] at hw)
  have R : DV (FP.drem a b) s (x % w) := ⟨c', q', u1, by rw [u2, e1, e2]⟩
  unfold frem
  rw [cnD_nn R.nn]; exact R
theorem drem_inf {a b : UInt64} {s : Bool} {x : Nat} (D : DV a s x) (hb : isInf b) : frem a b = a := by
  obtain ⟨t, ht⟩ := inf_ex.mpr hb
  have hf := FP.Core.val64_fits a
  obtain ⟨c, p, h1, e1⟩ := D
  rw [h1] at hf
  have R : FP.Core.val64 (FP.drem a b) = .fin s c p := by
    rw [show FP.drem a b = FP.Core.drem a b from rfl, FP.Core.val64_drem, h1, ht]
    exact FP.Core.round_of_fits FP.Core.good_b64 (d := .fin s c p) hf
  have e : FP.drem a b = a := FP.Core.val64_inj (by rw [R]; exact fun w => by cases w) (R.trans h1.symm)
  unfold frem
  rw [e]
  exact cnD_nn (nn_of (by rw [h1]; exact fun w => by cases w))
theorem n_rem2 (S : Sh B g) (R : RunC B q z g h) {x y : UInt64} (H : NumR (hD h (B + 136) 0) (hI h (B + 136) 1) x) (H2 : NumR (hD h (B + 137) 0) (hI h (B + 137) 1) y) : ∃ h1, pX1_remainder g h (B + 130) (B + 136) (B + 137) = some h1 ∧ NumR (hD h1 (B + 136) 0) (hI h1 (B + 136) 1) (frem x y) ∧ XFr B h h1 := by
  obtain ⟨r1, r2, r3, r4, r5, r6, r7⟩ := R
  obtain ⟨o1, n1, ex⟩ := H
  obtain ⟨o2, n2, ey⟩ := H2
  have T136 := st_136 S
  have T137 := st_137 S
  have Q : SpH g h (B + 130) (B + 131) := SpH_of S r1 r6
  have b33 : pX1_remainder_b33 g (B + 130) (B + 136) (B + 137) h = some (numW h (B + 136) 0 1) := by
    unfold pX1_remainder_b33
    rw [w_tg T136, n_setOdd T136, w_bd]
  have odd : frem x y = NaNc → ∃ h1, some (numW h (B + 136) 0 1) = some h1 ∧ NumR (hD h1 (B + 136) 0) (hI h1 (B + 136) 1) (frem x y) ∧ XFr B h h1 := fun e => ⟨_, rfl, by rw [numW_d, numW_i, e]; exact ⟨Or.inr rfl, nn_0, rfl⟩, (XFr.rf r7).x (Or.inr rfl)⟩
  have keep : frem x y = x → ∃ h1, some h = some h1 ∧ NumR (hD h1 (B + 136) 0) (hI h1 (B + 136) 1) (frem x y) ∧ XFr B h h1 := fun e => ⟨h, rfl, by rw [e]; exact ⟨o1, n1, ex⟩, XFr.rf r7⟩
  generalize hva : hD h (B + 136) 0 = va at *
  generalize hvb : hD h (B + 137) 0 = vb at *
  unfold pX1_remainder
  rw [w_tg (st_130 S), w_tg T136]
  by_cases a0 : hI h (B + 136) 1 = 0
  · rw [if_pos a0, w_tg T137]
    by_cases b0 : hI h (B + 137) 1 = 0
    · rw [if_pos b0]
      rw [if_pos a0] at ex
      rw [if_pos b0] at ey
      subst ex ey
      simp only [hva, hvb, isInf_0 n1, fc_eq n2 nn_0, kd_0]
      by_cases i1 : isInf x
      · rw [if_neg (not_not_intro i1), b33]
        exact odd (cnD_N ((rem_nan n1 n2).mpr (Or.inl i1)))
      · rw [if_pos i1]
        by_cases k2 : KD y = 0
        · rw [if_pos k2, b33]
          exact odd (cnD_N ((rem_nan n1 n2).mpr (Or.inr k2)))
        · rw [if_neg k2]
          obtain ⟨s, zz, D, hz⟩ := DV_of n1 i1
          obtain ⟨nu, ku⟩ := abs_kd n1
          obtain ⟨nw, kw⟩ := abs_kd n2
          have b59 : ∀ u, pX1_remainder_b59 g (B + 130) (B + 136) (B + 137) u h = pX1_remainder_b81 g (B + 130) (B + 136) (B + 137) u (absK y) h := fun u => by
            unfold pX1_remainder_b59 absK
            rw [w_tg T137]
            simp only [hvb, fc_ge n2 nn_0, kd_0]
            split <;> rfl
          have go : (if 0 ≤ Op.cmpValue (FP.dcmp x 0) .g then pX1_remainder_b59 g (B + 130) (B + 136) (B + 137) x h else pX1_remainder_b59 g (B + 130) (B + 136) (B + 137) (fneg x) h) = pX1_remainder_b81 g (B + 130) (B + 136) (B + 137) (absK x) (absK y) h := by
            simp only [b59, fc_ge n1 nn_0, kd_0]
            unfold absK
            split <;> rfl
          rw [go]
          unfold pX1_remainder_b81
          simp only [fc_lt nu nw, fc_eq nu nn_0, kd_0]
          by_cases lt' : KD (absK x) < KD (absK y)
          · rw [if_pos lt']
            refine keep ?_
            by_cases i2 : isInf y
            · exact drem_inf D i2
            · obtain ⟨t, wz, E, hw⟩ := DV_of n2 i2
              have w0 := (dv_pos E).mp k2
              have Dr := drem_dv D E w0
              have le : zz % wz = zz := by
                by_cases z0 : 0 < zz
                · exact Nat.mod_eq_of_lt (((abs_dv D z0).lt (abs_dv E w0)).mp lt')
                · rw [show zz = 0 by omega]; exact Nat.zero_mod _
              rw [le] at Dr
              exact dvInj Dr D
          · rw [if_neg lt']
            by_cases i2 : isInf y
            · exfalso
              have kb := kd_bound n1
              have : KD (absK y) = INFK := by
                rw [kw]
                rcases i2 with e | e
                · rw [e]; rfl
                · rw [e]; rfl
              rw [this, ku] at lt'
              split at lt' <;> (unfold isInf at i1; omega)
            · obtain ⟨t, wz, E, hw⟩ := DV_of n2 i2
              have w0 := (dv_pos E).mp k2
              have Dr := drem_dv D E w0
              by_cases k0 : KD (absK x) = 0
              · rw [if_pos k0]
                refine keep ?_
                have z0 : zz = 0 := by
                  have : ¬ KD x ≠ 0 := fun w => by
                    rw [ku] at k0
                    split at k0 <;> omega
                  rw [dv_pos D] at this
                  omega
                subst z0
                rw [Nat.zero_mod] at Dr
                exact dvInj Dr D
              · rw [if_neg k0]
                have z0 : 0 < zz := (dv_pos D).mp fun w => k0 (by rw [ku, w]; rfl)
                have Du := abs_dv D z0
                have Dw := abs_dv E w0
                have wle : wz ≤ zz := Nat.not_lt.mp fun w => lt' ((Du.lt Dw).mpr w)
                obtain ⟨eb, nb, cb, f1, f2, f3, ⟨ib, jb, f4, f5⟩, lb, f6, f7⟩ := split_spec2 Q Dw w0 hw
                rw [f7, w_bd]
                generalize hh3 : sL (sI h (B + 130) 4 (Int32.ofInt eb)) (B + 130) 3 lb = h3
                have x3 : XFr B h h3 := by
                  rw [← hh3]
                  exact ⟨rfl, fun w _ _ c => ((Eqa.rf h w).sI c).sL c, fun k hk => by show hI (sI h (B + 130) 4 _) (B + 130) k = _; rw [hI_sI, if_pos rfl, ud_n hk], fun k hk => by rw [hL_sL, if_pos rfl, ud_n hk]; rfl, ⟨by show is01 (hI (sI h (B + 130) 4 _) (B + 136) 1); rw [hI_sI, if_neg (by omega)]; exact r7.1, by show is01 (hI (sI h (B + 130) 4 _) (B + 137) 1); rw [hI_sI, if_neg (by omega)]; exact r7.2⟩⟩
                have l3 : hL h3 (B + 130) 3 = lb := by rw [← hh3, hL_sL, if_pos rfl, ud_s]
                have e3 : hI h3 (B + 130) 4 = Int32.ofInt eb := by rw [← hh3]; show hI (sI h (B + 130) 4 _) (B + 130) 4 = _; rw [hI_s]
                have Q3 : SpH g h3 (B + 130) (B + 131) := ⟨Q.1, Q.2.1, Q.2.2.1, by rw [x3.1]; exact Q.2.2.2.1, fun k hk => by rw [(x3.2.1 (B + 131) (by omega) (by omega) (by omega)).2.2.1]; exact Q.2.2.2.2 k hk⟩
                obtain ⟨ea, na, ca, g1, g2, g3, ⟨ia, ja, g4, g5⟩, la, g6, g7⟩ := split_spec2 Q3 Du z0 hz
                simp only [w_lt, l3, e3]
                rw [g7, w_bd]
                generalize hh7 : sL (sI h3 (B + 130) 4 (Int32.ofInt ea)) (B + 130) 3 la = h7
                have x7 : XFr B h h7 := by
                  refine x3.tr ?_
                  rw [← hh7]
                  exact ⟨rfl, fun w _ _ c => ((Eqa.rf h3 w).sI c).sL c, fun k hk => by show hI (sI h3 (B + 130) 4 _) (B + 130) k = _; rw [hI_sI, if_pos rfl, ud_n hk], fun k hk => by rw [hL_sL, if_pos rfl, ud_n hk]; rfl, ⟨by show is01 (hI (sI h3 (B + 130) 4 _) (B + 136) 1); rw [hI_sI, if_neg (by omega)]; exact x3.2.2.2.2.1, by show is01 (hI (sI h3 (B + 130) 4 _) (B + 137) 1); rw [hI_sI, if_neg (by omega)]; exact x3.2.2.2.2.2⟩⟩
                have l7 : hL h7 (B + 130) 3 = la := by rw [← hh7, hL_sL, if_pos rfl, ud_s]
                have e7 : hI h7 (B + 130) 4 = Int32.ofInt ea := by rw [← hh7]; show hI (sI h3 (B + 130) 4 _) (B + 130) 4 = _; rw [hI_s]
                have Q7 : SpH g h7 (B + 130) (B + 131) := ⟨Q.1, Q.2.1, Q.2.2.1, by rw [x7.1]; exact Q.2.2.2.1, fun k hk => by rw [(x7.2.1 (B + 131) (by omega) (by omega) (by omega)).2.2.1]; exact Q.2.2.2.2 k hk⟩
                have tb : lb.toInt = (cb : Int) := f6.trans f1
                have ta : la.toInt = (ca : Int) := g6.trans g1
                have d7 : hD h7 (B + 136) 0 = x := by
                  rw [← hva, ← hh7, ← hh3]; rfl
                have i7 : hI h7 (B + 136) 1 = 0 := by
                  rw [← a0, ← hh7, ← hh3]
                  show hI (sI (sI h (B + 130) 4 _) (B + 130) 4 _) (B + 136) 1 = _
                  rw [hI_sI, if_neg (by omega), hI_sI, if_neg (by omega)]
                -- the exponents
                have bnd : ∀ (v c i j : Nat), v * 2 ^ i = c * 2 ^ j → 0 < v → v < 2 ^ 2098 → c < 2 ^ 53 → 2 ^ 52 ≤ c → i < 53 + j ∧ 52 + j < 2098 + i := fun v c i j e v0 v1 c1 c2 => by
                  constructor
                  · have : 2 ^ i < 2 ^ (53 + j) := by
                      calc 2 ^ i ≤ v * 2 ^ i := Nat.le_mul_of_pos_left _ v0
                        _ = c * 2 ^ j := e
                        _ < 2 ^ 53 * 2 ^ j := Nat.mul_lt_mul_of_pos_right c1 (two_pos _)
                        _ = 2 ^ (53 + j) := (Nat.pow_add ..).symm
                    exact (Nat.pow_lt_pow_iff_right (by decide : 1 < 2)).mp this
                  · have : 2 ^ (52 + j) < 2 ^ (2098 + i) := by
                      calc 2 ^ (52 + j) = 2 ^ 52 * 2 ^ j := Nat.pow_add ..
                        _ ≤ c * 2 ^ j := Nat.mul_le_mul_right _ c2
                        _ = v * 2 ^ i := e.symm
                        _ < 2 ^ 2098 * 2 ^ i := Nat.mul_lt_mul_of_pos_right v1 (two_pos _)
                        _ = 2 ^ (2098 + i) := (Nat.pow_add ..).symm
                    exact (Nat.pow_lt_pow_iff_right (by decide : 1 < 2)).mp this
                have ba := bnd zz ca ia ja g4 z0 hz g2 g3
                have bb := bnd wz cb ib jb f4 w0 hw f2 f3
                have gap : eb ≤ ea := by
                  refine Int.not_lt.mp fun w => ?_
                  have w2 : ja + ib + 1 ≤ jb + ia := by omega
                  have m1 : zz * 2 ^ (ia + ib) = ca * 2 ^ (ja + ib) := by rw [Nat.pow_add, ← Nat.mul_assoc, g4, Nat.mul_assoc, ← Nat.pow_add]
                  have m2 : wz * 2 ^ (ia + ib) = cb * 2 ^ (jb + ia) := by rw [Nat.add_comm ia, Nat.pow_add, ← Nat.mul_assoc, f4, Nat.mul_assoc, ← Nat.pow_add]
                  have m3 : cb * 2 ^ (jb + ia) ≤ ca * 2 ^ (ja + ib) := by rw [← m1, ← m2]; exact Nat.mul_le_mul_right _ wle
                  have m4 : 2 ^ (53 + (ja + ib)) ≤ cb * 2 ^ (jb + ia) := by
                    calc 2 ^ (53 + (ja + ib)) = 2 ^ 52 * 2 ^ (ja + ib + 1) := by rw [← Nat.pow_add]; congr 1; omega
                      _ ≤ cb * 2 ^ (jb + ia) := Nat.mul_le_mul f3 (Nat.pow_le_pow_right (by decide) w2)
                  have m5 : ca * 2 ^ (ja + ib) < 2 ^ (53 + (ja + ib)) := by rw [Nat.pow_add 2 53]; exact Nat.mul_lt_mul_of_pos_right g2 (two_pos _)
                  omega
                have hlb : 0 < lb.toInt := by omega
                have hlb0 : ¬ lb = 0 := fun w => by
                  rw [w] at hlb
                  have : (0 : Int64).toInt = 0 := rfl
                  omega
                rw [if_pos (show 0 < lg_cmp lb 0 by rw [lgc_gt]; exact hlb), w_dvL hlb0, l7, e7]
                have eG : Int32.ofInt ea - Int32.ofInt eb = Int32.ofInt (ea - eb) := by
                  refine Int32.toInt_inj.mp ?_
                  rw [Int32.toInt_sub, Int32.toInt_ofInt_of_le (by omega) (by omega), Int32.toInt_ofInt_of_le (by omega) (by omega), Int32.toInt_ofInt_of_le (by omega) (by omega), Int.bmod_eq_of_le (by omega) (by omega)]
                rw [eG]
                have hmod : (la - la / lb * lb).toInt = ((ca % cb : Nat) : Int) := by
                  rw [l_mod (by omega) hlb, ta, tb]
                  push_cast
                  rfl
                obtain ⟨lr, p1', p2'⟩ := rem_loop (g := g) (h := h7) (a := B + 130) (p1 := B + 136) (p2 := B + 137) tb (by omega) f2 (Int32.ofInt eb) 400 (ea - eb) FUEL (la - la / lb * lb) (ca % cb) (by omega) (by omega) (by omega) (by decide) hmod (Nat.mod_lt _ (by omega))
                rw [p2']
                have eR : ca % cb * 2 ^ (ea - eb).toNat % cb = ca * 2 ^ (ea - eb).toNat % cb := by rw [Nat.mul_mod, Nat.mod_mod, ← Nat.mul_mod]
                rw [eR] at p1'
                have rel : (zz % wz) * 2 ^ ib = ca * 2 ^ (ea - eb).toNat % cb * 2 ^ jb := by
                  have u1 : zz * 2 ^ ib = ca * 2 ^ (ea - eb).toNat * 2 ^ jb := by
                    have : zz * 2 ^ ib * 2 ^ ia = ca * 2 ^ (ea - eb).toNat * 2 ^ jb * 2 ^ ia := by
                      rw [Nat.mul_right_comm, g4, Nat.mul_assoc, Nat.mul_assoc, Nat.mul_assoc, ← Nat.pow_add, ← Nat.pow_add, ← Nat.pow_add]
                      congr 2
                      omega
                    exact Nat.eq_of_mul_eq_mul_right (two_pos _) this
                  rw [← Nat.mul_mod_mul_right, u1, f4, Nat.mul_mod_mul_right]
                obtain ⟨v, v1, v2⟩ := join_exact Q7 p1' (Nat.lt_trans (Nat.mod_lt _ (by omega)) f2) rel (Nat.lt_of_le_of_lt (Nat.mod_le _ _) hz) f5 (by omega) (by omega)
                rw [v1, w_bd, w_tg T136, d7]
                simp only [fc_ge n1 nn_0, kd_0]
                have b200 : ∀ u, pX1_remainder_b200 g (B + 130) (B + 136) (B + 137) (B + 136) u h7 = some (sD h7 (B + 136) 0 u) := fun u => by
                  unfold pX1_remainder_b200
                  rw [w_tg T136, w_lt]
                have fin : ∀ u, u = frem x y → FP.dIsNaN u = false → ∃ h1, some (sD h7 (B + 136) 0 u) = some h1 ∧ NumR (hD h1 (B + 136) 0) (hI h1 (B + 136) 1) (frem x y) ∧ XFr B h h1 := fun u e nn => by
                  refine ⟨_, rfl, ⟨?_, ?_, ?_⟩, x7.tr ⟨rfl, fun w w1 _ _ => (Eqa.rf h7 w).sD w1, fun _ _ => rfl, fun _ _ => rfl, x7.2.2.2.2⟩⟩
                  · show is01 (hI h7 (B + 136) 1)
                    rw [i7]; exact Or.inl rfl
                  · rw [hD_sD, if_pos rfl, ud_s]; exact nn
                  · rw [hD_sD, if_pos rfl, ud_s]
                    show _ = if hI h7 (B + 136) 1 = 0 then u else NaNc
                    rw [if_pos i7, e]
                simp only [b200]
                have sg := KD_sg D z0
                rcases v2 with ⟨zv, v0, -⟩ | ⟨zv, Dv⟩
                · rw [zv] at Dr
                  cases s with
                  | false =>
                    rw [if_pos (sg.mpr rfl)]
                    exact fin v (by
                      rw [v0]
                      exact dvInj (show DV 0 false 0 from ⟨0, -1074, by decide +kernel, by simp [FP.Core.inUnits]⟩) Dr) (by rw [v0]; exact nn_0)
                  | true =>
                    rw [if_neg (fun w => by have := sg.mp w; cases this)]
                    have Dn : DV (fneg v) true 0 := by
                      rw [v0]
                      exact (show DV 0 false 0 from ⟨0, -1074, by decide +kernel, by simp [FP.Core.inUnits]⟩).neg
                    exact fin _ (dvInj Dn Dr) Dn.nn
                · cases s with
                  | false =>
                    rw [if_pos (sg.mpr rfl)]
                    exact fin v (dvInj Dv Dr) Dv.nn
                  | true =>
                    rw [if_neg (fun w => by have := sg.mp w; cases this)]
                    exact fin _ (dvInj Dv.neg Dr) Dv.neg.nn
    · rw [if_neg b0, b33]
      refine odd (frem_n (Or.inr ?_))
      rw [ey, if_neg b0]; exact NaNc_nan
  · rw [if_neg a0, b33]
    refine odd (frem_n (Or.inl ?_))
    rw [ex, if_neg a0]; exact NaNc_nan
end DRF
