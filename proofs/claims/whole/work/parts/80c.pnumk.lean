/-! NUMBERS: kinds, conversions, comparisons -/
section NK
variable {g : MT} {h : CT} {a b : Nat} {x y : UInt64}
theorem fsub_self0 {v : UInt64} (n : FP.dIsNaN v = false) : (Op.cmpValue (FP.dcmp (fsub v v) 0) .l = 0) = ¬ isInf v := by
  by_cases c : isInf v
  · have e : fsub v v = NaNc := cnD_N ((sub_nan n n).mpr ⟨c, rfl⟩)
    rw [e, fc_nl (Or.inl NaNc_nan)]
    exact propext ⟨fun z => absurd z (by decide), fun z => absurd c z⟩
  · have n2 : FP.dIsNaN (FP.dsub v v) = false := by simpa using mt (sub_nan n n).mp (fun z => c z.1)
    have e : fsub v v = 0 := by
      rw [show fsub v v = FP.dsub v v from cnD_nn n2]
      cases hv : FP.Core.val64 v with
      | nan => exact absurd hv (nn_ne n)
      | inf s => exact absurd (inf_ex.mp ⟨s, hv⟩) c
      | fin s cc q => exact FP.Core.dsub_self hv
    rw [e, fc_eq nn_0 nn_0]
    exact propext ⟨fun _ => c, fun _ => rfl⟩
theorem kindOf_nan : pX13_kindOf NaNc = 5 := by
  unfold pX13_kindOf
  rw [fc_nl (Or.inl NaNc_nan), if_neg (by decide)]
theorem n_kind (T : gT g a = 4) (H : NumR (hD h a 0) (hI h a 1) x) : pX4_kind g h a = some (pX13_kindOf x) := by
  unfold pX4_kind
  rw [w_tg T]
  by_cases c : hI h a 1 = 0
  · have n := H.2.1
    rw [if_pos c, H.x0 c]
    unfold pX13_kindOf
    simp only [fc_eq n n, if_true, fc_eq n nn_0, kd_0, isMZ_0 n, isInf_0 n, fc_le n nn_0, fsub_self0 n]
    by_cases c1 : KD (hD h a 0) = 0
    · rw [if_pos c1, if_pos c1]
      rcases kd0_bits c1 with e | e <;> rw [e] <;> decide +kernel
    · rw [if_neg c1, if_neg c1]
      by_cases c2 : isInf (hD h a 0)
      · rw [if_neg (not_not_intro c2), if_neg (not_not_intro c2)]
        split <;> rfl
      · rw [if_pos c2, if_pos c2]
  · rw [if_neg c, H.x1 c, kindOf_nan]
theorem n_setKind (T : gT g a = 4) (k : Int32) (h1 : k = 1 ∨ k = 2 ∨ k = 3 ∨ k = 4 ∨ k = 5) : ∃ v o, pX4_setKind g h a k = some (numW h a v o) ∧ NumR v o (pX13_strangeOf k) := by
  unfold pX4_setKind
  simp only [w_tg T, n_set T, n_setOdd T, w_bd]
  rcases h1 with rfl | rfl | rfl | rfl | rfl
  · exact ⟨0, 0, rfl, NumR_ok nn_0⟩
  · exact ⟨9223372036854775808, 0, rfl, by rw [show pX13_strangeOf 2 = 9223372036854775808 from by decide +kernel]; exact NumR_ok nn_n0⟩
  · exact ⟨9218868437227405312, 0, rfl, by rw [show pX13_strangeOf 3 = 9218868437227405312 from by decide +kernel]; exact NumR_ok nn_pinf⟩
  · exact ⟨18442240474082181120, 0, rfl, by rw [show pX13_strangeOf 4 = 18442240474082181120 from by decide +kernel]; exact NumR_ok nn_ninf⟩
  · exact ⟨0, 1, rfl, by rw [show pX13_strangeOf 5 = NaNc from by decide +kernel]; exact NumR_nan⟩
theorem cnF_nn {z : UInt32} (e : FP.fIsNaN z = false) : cnF z = z := by unfold cnF; rw [e]; rfl
theorem single_nn {v : UInt64} (n : FP.dIsNaN v = false) : FP.dIsNaN (cnD (FP.f2d (cnF (FP.d2f v)))) = false := by
  have e1 : FP.fIsNaN (FP.d2f v) = false := by rw [FP.d2f_nan]; exact n
  have e2 : FP.dIsNaN (FP.f2d (FP.d2f v)) = false := by rw [FP.f2d_nan]; exact e1
  rw [cnF_nn e1, cnD_nn e2]; exact e2
theorem single_n : cnD (FP.f2d (cnF (FP.d2f NaNc))) = NaNc := by decide +kernel
theorem n_toSingle (T : gT g a = 4) (H : NumR (hD h a 0) (hI h a 1) x) : ∃ v o, pX4_toSingle g h a = some (numW h a v o) ∧ NumR v o (cnD (FP.f2d (cnF (FP.d2f x)))) := by
  refine ⟨cnD (FP.f2d (cnF (FP.d2f (hD h a 0)))), hI h a 1, ?_, H.1, single_nn H.2.1, ?_⟩
  · unfold pX4_toSingle
    rw [w_tg T, numW_o rfl]; rfl
  · by_cases c : hI h a 1 = 0
    · rw [if_pos c, H.x0 c]
    · rw [if_neg c, H.x1 c, single_n]
theorem n_asLong (T : gT g a = 4) (H : NumR (hD h a 0) (hI h a 1) x) : pX4_asLong g h a = some (FP.d2l x) := by
  unfold pX4_asLong
  rw [w_tg T]
  by_cases c : hI h a 1 = 0
  · rw [if_pos c, H.x0 c]
  · rw [if_neg c, H.x1 c, show FP.d2l NaNc = 0 from by decide +kernel]
theorem l2d_nn (n : Int64) : FP.dIsNaN (FP.l2d n) = false := (FP.Core.l2d_fin n).notNaN
theorem i2d_nn (n : Int32) : FP.dIsNaN (FP.i2d n) = false := (FP.Core.i2d_fin n).notNaN
theorem fl2d_e (n : Int64) : fl2d n = FP.l2d n := cnD_nn (l2d_nn n)
theorem fi2d_e (n : Int32) : fi2d n = FP.i2d n := cnD_nn (i2d_nn n)
theorem fl2d_nn (n : Int64) : FP.dIsNaN (fl2d n) = false := by rw [fl2d_e]; exact l2d_nn n
theorem fi2d_nn (n : Int32) : FP.dIsNaN (fi2d n) = false := by rw [fi2d_e]; exact i2d_nn n
theorem n_toWhole (T : gT g a = 4) (H : NumR (hD h a 0) (hI h a 1) x) : pX4_toWhole g h a = some (numW h a (fl2d (FP.d2l x)) 0) := by
  unfold pX4_toWhole
  rw [w_tg T, n_asLong T H]
  simp only [w_bd, n_set T]
theorem n_isLess (T : gT g a = 4) (T2 : gT g b = 4) (H : NumR (hD h a 0) (hI h a 1) x) (H2 : NumR (hD h b 0) (hI h b 1) y) : pX4_isLess g h a b = some (if 0 ≤ Op.cmpValue (FP.dcmp x y) .g then 0 else 1) := by
  unfold pX4_isLess
  rw [w_tg T, w_tg T2]
  by_cases c : hI h a 1 = 0
  · rw [if_pos c, H.x0 c]
    by_cases d : hI h b 1 = 0
    · rw [if_pos d, H2.x0 d]; split <;> rfl
    · rw [if_neg d, H2.x1 d, fc_ng (Or.inr NaNc_nan)]; rfl
  · rw [if_neg c, H.x1 c, fc_ng (Or.inl NaNc_nan)]; rfl
theorem n_isSame (T : gT g a = 4) (T2 : gT g b = 4) (H : NumR (hD h a 0) (hI h a 1) x) (H2 : NumR (hD h b 0) (hI h b 1) y) : pX4_isSame g h a b = some (if Op.cmpValue (FP.dcmp x y) .l = 0 then 1 else 0) := by
  unfold pX4_isSame
  rw [w_tg T, w_tg T2]
  by_cases c : hI h a 1 = 0
  · rw [if_pos c, H.x0 c]
    by_cases d : hI h b 1 = 0
    · rw [if_pos d, H2.x0 d]; split <;> rfl
    · rw [if_neg d, H2.x1 d, fc_nl (Or.inr NaNc_nan)]; rfl
  · rw [if_neg c, H.x1 c, fc_nl (Or.inl NaNc_nan)]; rfl
theorem cmp_self0 : (Op.cmpValue (FP.dcmp x x) .l = 0) = (FP.dIsNaN x = false) := by
  cases e : FP.dIsNaN x with
  | false => rw [fc_eq e e]; simp
  | true => rw [fc_nl (Or.inl e)]; simp
theorem odd_val {v : UInt64} {o : Int32} (H : NumR v o x) : o = if Op.cmpValue (FP.dcmp x x) .l = 0 then 0 else 1 := by
  rcases H.1 with e | e
  · rw [H.x0 e, cmp_self0.mpr H.2.1, e]; rfl
  · rw [H.x1 (by rw [e]; decide), fc_nl (Or.inl NaNc_nan), e]; rfl
theorem n_alike (T : gT g a = 4) (T2 : gT g b = 4) (H : NumR (hD h a 0) (hI h a 1) x) (H2 : NumR (hD h b 0) (hI h b 1) y) : pX4_alike g h a b = some (pX13_areAlike x y) := by
  unfold pX4_alike pX4_alike_b14 pX4_alike_b22 pX13_areAlike pX13_areAlike_b18
  rw [w_tg T, w_tg T2, n_isSame T T2 H H2, w_bd]
  by_cases c : hI h a 1 = 0
  · rw [if_pos c, cmp_self0.mpr (by rw [H.x0 c]; exact H.2.1)]
    split <;> rfl
  · rw [if_neg c]
    have e : Op.cmpValue (FP.dcmp x y) .l = -1 := fc_nl (Or.inl (by rw [H.x1 c]; exact NaNc_nan))
    have e2 : Op.cmpValue (FP.dcmp x x) .l = -1 := fc_nl (Or.inl (by rw [H.x1 c]; exact NaNc_nan))
    rw [e, e2]
    by_cases d : hI h b 1 = 0
    · rw [if_pos d, cmp_self0.mpr (by rw [H2.x0 d]; exact H2.2.1)]; rfl
    · rw [if_neg d, show Op.cmpValue (FP.dcmp y y) .l = -1 from fc_nl (Or.inl (by rw [H2.x1 d]; exact NaNc_nan))]; rfl
-- whole numbers of at most a million
theorem zval_m : FP.Core.zval FP.Core.b64 (FP.Core.val64 4696837146684686336) = ((1000000 : Nat) : Int) * (FP.Core.one64 : Int) := by decide +kernel
theorem zval_mn : FP.Core.zval FP.Core.b64 (FP.Core.val64 13920209183539462144) = -(((1000000 : Nat) : Int) * (FP.Core.one64 : Int)) := by decide +kernel
theorem nn_m : FP.dIsNaN 4696837146684686336 = false := by decide +kernel
theorem nn_mn : FP.dIsNaN 13920209183539462144 = false := by decide +kernel
theorem kz_le {v w : UInt64} (n : FP.dIsNaN v = false) (m : FP.dIsNaN w = false) : KD v ≤ KD w ↔ FP.Core.zval FP.Core.b64 (FP.Core.val64 v) ≤ FP.Core.zval FP.Core.b64 (FP.Core.val64 w) := by
  have e := (FP.Core.dcmp_key (nn_ne n) (nn_ne m)).symm.trans (FP.Core.dcmp_zval (nn_ne n) (nn_ne m))
  simp only [Option.some.injEq] at e
  constructor
  · intro z
    refine Int.not_lt.mp fun q => ?_
    rw [(FP.Core.compare_gt_iff _ _).mpr q, FP.Core.compare_gt_iff] at e
    exact absurd z (Int.not_le.mpr e)
  · intro z
    refine Int.not_lt.mp fun q => ?_
    rw [(FP.Core.compare_gt_iff _ _).mpr q] at e
    have := (FP.Core.compare_gt_iff _ _).mp e.symm
    omega
theorem mag_small {s : Bool} {m P k : Nat} (hP : 0 < P) (h1 : -(((k : Nat) : Int) * (P : Int)) ≤ FP.Core.signed s m) (h2 : FP.Core.signed s m ≤ ((k : Nat) : Int) * (P : Int)) : m / P ≤ k := by
  have : m ≤ k * P := by
    have e : ((k * P : Nat) : Int) = (k : Int) * (P : Int) := Int.natCast_mul k P
    rw [← e] at h1 h2
    unfold FP.Core.signed at h1 h2
    cases s <;> simp at h1 h2 <;> omega
  exact Nat.div_le_of_le_mul (by rw [Nat.mul_comm]; exact this)
theorem trunc_small {v : UInt64} (n : FP.dIsNaN v = false) (h1 : KD 13920209183539462144 ≤ KD v) (h2 : KD v ≤ KD 4696837146684686336) : (FP.d2i v).toInt = (FP.d2l v).toInt ∧ -1000000 ≤ (FP.d2i v).toInt ∧ (FP.d2i v).toInt ≤ 1000000 := by
  rw [kz_le nn_mn n, zval_mn] at h1
  rw [kz_le n nn_m, zval_m] at h2
  have e1 := FP.Core.d2i_val (nn_ne n)
  have e2 := FP.Core.d2l_val (nn_ne n)
  have e3 := mag_small FP.Core.one64_pos h1 h2
  have f1 : (FP.d2i v).toInt = _ := e1
  have f2 : (FP.d2l v).toInt = _ := e2
  rw [f1, f2]
  generalize FP.Core.zmag FP.Core.b64 (FP.Core.val64 v) / FP.Core.one64 = m at *
  unfold FP.Core.signed
  split <;> omega
theorem i2d_l2d {i : Int32} {l : Int64} (e : i.toInt = l.toInt) : fi2d i = fl2d l := by
  unfold fi2d fl2d
  show cnD (UInt64.ofNat (FP.Core.fromInt FP.Core.b64 i.toInt)) = cnD (UInt64.ofNat (FP.Core.fromInt FP.Core.b64 l.toInt))
  rw [e]
theorem n_isOffset (T : gT g a = 4) (H : NumR (hD h a 0) (hI h a 1) x) : pX4_isOffset g h a = some (pX13_isIndex x) := by
  unfold pX4_isOffset pX13_isIndex
  rw [w_tg T]
  by_cases c : hI h a 1 = 0
  · have n := H.2.1
    rw [if_pos c, H.x0 c]
    simp only [fc_lt n nn_mn, fc_gt n nn_m]
    by_cases c1 : KD (hD h a 0) < KD 13920209183539462144
    · rw [if_pos c1, if_pos c1]
    · rw [if_neg c1, if_neg c1]
      by_cases c2 : KD 4696837146684686336 < KD (hD h a 0)
      · rw [if_pos c2, if_pos c2]
      · rw [if_neg c2, if_neg c2, i2d_l2d (trunc_small n (by omega) (by omega)).1]
        simp only [fc_eq n (fl2d_nn _), fc_eq (fl2d_nn _) n]
        by_cases c3 : KD (hD h a 0) = KD (fl2d (FP.d2l (hD h a 0)))
        · rw [if_pos c3, if_pos c3.symm]
        · rw [if_neg c3, if_neg (fun z => c3 z.symm)]
  · rw [if_neg c, H.x1 c, fc_nl (Or.inl NaNc_nan)]
    rfl
/-- of a number by which one may gather: the two ways of cutting it are one -/
theorem idx_cut (hx : ¬ pX13_isIndex x = 0) : (FP.d2l x).toInt32 = FP.d2i x ∧ -1000000 ≤ (FP.d2i x).toInt ∧ (FP.d2i x).toInt ≤ 1000000 := by
  unfold pX13_isIndex at hx
  cases n : FP.dIsNaN x with
  | true => rw [fc_nl (Or.inl n)] at hx; exact absurd rfl hx
  | false =>
    simp only [fc_lt n nn_mn, fc_gt n nn_m] at hx
    by_cases c1 : KD x < KD 13920209183539462144
    · rw [if_pos c1] at hx; exact absurd rfl hx
    · rw [if_neg c1] at hx
      by_cases c2 : KD 4696837146684686336 < KD x
      · rw [if_pos c2] at hx; exact absurd rfl hx
      · obtain ⟨e, b1, b2⟩ := trunc_small n (by omega) (by omega)
        refine ⟨Int32.toInt.inj ?_, b1, b2⟩
        rw [Int64.toInt_toInt32, ← e]
        exact Int.bmod_eq_of_le (by omega) (by omega)
end NK
