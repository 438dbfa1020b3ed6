/-! MARKS: a machine is copied -/
def MachA (g : MT) (r : Nat → Nat → Option Nat) (q : Nat) : Prop := gT g q = 3 ∧ r q 0 = some (q + 1) ∧ gT g (q + 1) = 27 ∧ gL g (q + 1) = 6 ∧ (∀ i, i < 6 → r (q + 1) i = some (q + 2 + 3 * i) ∧ RowA g r (q + 2 + 3 * i) 16) ∧ r q 1 = some (q + 20) ∧ gT g (q + 20) = 24 ∧ gL g (q + 20) = 6 ∧ r q 2 = some (q + 21) ∧ RowA g r (q + 21) 4 ∧ r q 3 = some (q + 24) ∧ RowA g r (q + 24) 64
theorem six {i : Nat} (h : i < 6) : i = 0 ∨ i = 1 ∨ i = 2 ∨ i = 3 ∨ i = 4 ∨ i = 5 := by omega
theorem machA_13 {B : Nat} {g : MT} {r : Nat → Nat → Option Nat} (S : Sh B g) (p : PtC B r) : MachA g r (B + 13) := by
  refine ⟨st_13 S, pc_13_0 p, st_14 S, sl_14 S, fun i hi => ?_, pc_13_1 p, st_33 S, sl_33 S, pc_13_2 p, ⟨st_34 S, pc_34_0 p, pc_34_1 p, st_35 S, sl_35 S, st_36 S, sl_36 S⟩, pc_13_3 p, ⟨st_37 S, pc_37_0 p, pc_37_1 p, st_38 S, sl_38 S, st_39 S, sl_39 S⟩⟩
  rcases six hi with rfl | rfl | rfl | rfl | rfl | rfl
  · exact ⟨pc_14_0 p, st_15 S, pc_15_0 p, pc_15_1 p, st_16 S, sl_16 S, st_17 S, sl_17 S⟩
  · exact ⟨pc_14_1 p, st_18 S, pc_18_0 p, pc_18_1 p, st_19 S, sl_19 S, st_20 S, sl_20 S⟩
  · exact ⟨pc_14_2 p, st_21 S, pc_21_0 p, pc_21_1 p, st_22 S, sl_22 S, st_23 S, sl_23 S⟩
  · exact ⟨pc_14_3 p, st_24 S, pc_24_0 p, pc_24_1 p, st_25 S, sl_25 S, st_26 S, sl_26 S⟩
  · exact ⟨pc_14_4 p, st_27 S, pc_27_0 p, pc_27_1 p, st_28 S, sl_28 S, st_29 S, sl_29 S⟩
  · exact ⟨pc_14_5 p, st_30 S, pc_30_0 p, pc_30_1 p, st_31 S, sl_31 S, st_32 S, sl_32 S⟩
theorem machA_43 {B : Nat} {g : MT} {r : Nat → Nat → Option Nat} (S : Sh B g) (p : PtC B r) : MachA g r (B + 43) := by
  refine ⟨st_43 S, pc_43_0 p, st_44 S, sl_44 S, fun i hi => ?_, pc_43_1 p, st_63 S, sl_63 S, pc_43_2 p, ⟨st_64 S, pc_64_0 p, pc_64_1 p, st_65 S, sl_65 S, st_66 S, sl_66 S⟩, pc_43_3 p, ⟨st_67 S, pc_67_0 p, pc_67_1 p, st_68 S, sl_68 S, st_69 S, sl_69 S⟩⟩
  rcases six hi with rfl | rfl | rfl | rfl | rfl | rfl
  · exact ⟨pc_44_0 p, st_45 S, pc_45_0 p, pc_45_1 p, st_46 S, sl_46 S, st_47 S, sl_47 S⟩
  · exact ⟨pc_44_1 p, st_48 S, pc_48_0 p, pc_48_1 p, st_49 S, sl_49 S, st_50 S, sl_50 S⟩
  · exact ⟨pc_44_2 p, st_51 S, pc_51_0 p, pc_51_1 p, st_52 S, sl_52 S, st_53 S, sl_53 S⟩
  · exact ⟨pc_44_3 p, st_54 S, pc_54_0 p, pc_54_1 p, st_55 S, sl_55 S, st_56 S, sl_56 S⟩
  · exact ⟨pc_44_4 p, st_57 S, pc_57_0 p, pc_57_1 p, st_58 S, sl_58 S, st_59 S, sl_59 S⟩
  · exact ⟨pc_44_5 p, st_60 S, pc_60_0 p, pc_60_1 p, st_61 S, sl_61 S, st_62 S, sl_62 S⟩
theorem machA_72 {B : Nat} {g : MT} {r : Nat → Nat → Option Nat} (S : Sh B g) (p : PtC B r) : MachA g r (B + 72) := by
  refine ⟨st_72 S, pc_72_0 p, st_73 S, sl_73 S, fun i hi => ?_, pc_72_1 p, st_92 S, sl_92 S, pc_72_2 p, ⟨st_93 S, pc_93_0 p, pc_93_1 p, st_94 S, sl_94 S, st_95 S, sl_95 S⟩, pc_72_3 p, ⟨st_96 S, pc_96_0 p, pc_96_1 p, st_97 S, sl_97 S, st_98 S, sl_98 S⟩⟩
  rcases six hi with rfl | rfl | rfl | rfl | rfl | rfl
  · exact ⟨pc_73_0 p, st_74 S, pc_74_0 p, pc_74_1 p, st_75 S, sl_75 S, st_76 S, sl_76 S⟩
  · exact ⟨pc_73_1 p, st_77 S, pc_77_0 p, pc_77_1 p, st_78 S, sl_78 S, st_79 S, sl_79 S⟩
  · exact ⟨pc_73_2 p, st_80 S, pc_80_0 p, pc_80_1 p, st_81 S, sl_81 S, st_82 S, sl_82 S⟩
  · exact ⟨pc_73_3 p, st_83 S, pc_83_0 p, pc_83_1 p, st_84 S, sl_84 S, st_85 S, sl_85 S⟩
  · exact ⟨pc_73_4 p, st_86 S, pc_86_0 p, pc_86_1 p, st_87 S, sl_87 S, st_88 S, sl_88 S⟩
  · exact ⟨pc_73_5 p, st_89 S, pc_89_0 p, pc_89_1 p, st_90 S, sl_90 S, st_91 S, sl_91 S⟩
theorem machA_101 {B : Nat} {g : MT} {r : Nat → Nat → Option Nat} (S : Sh B g) (p : PtC B r) : MachA g r (B + 101) := by
  refine ⟨st_101 S, pc_101_0 p, st_102 S, sl_102 S, fun i hi => ?_, pc_101_1 p, st_121 S, sl_121 S, pc_101_2 p, ⟨st_122 S, pc_122_0 p, pc_122_1 p, st_123 S, sl_123 S, st_124 S, sl_124 S⟩, pc_101_3 p, ⟨st_125 S, pc_125_0 p, pc_125_1 p, st_126 S, sl_126 S, st_127 S, sl_127 S⟩⟩
  rcases six hi with rfl | rfl | rfl | rfl | rfl | rfl
  · exact ⟨pc_102_0 p, st_103 S, pc_103_0 p, pc_103_1 p, st_104 S, sl_104 S, st_105 S, sl_105 S⟩
  · exact ⟨pc_102_1 p, st_106 S, pc_106_0 p, pc_106_1 p, st_107 S, sl_107 S, st_108 S, sl_108 S⟩
  · exact ⟨pc_102_2 p, st_109 S, pc_109_0 p, pc_109_1 p, st_110 S, sl_110 S, st_111 S, sl_111 S⟩
  · exact ⟨pc_102_3 p, st_112 S, pc_112_0 p, pc_112_1 p, st_113 S, sl_113 S, st_114 S, sl_114 S⟩
  · exact ⟨pc_102_4 p, st_115 S, pc_115_0 p, pc_115_1 p, st_116 S, sl_116 S, st_117 S, sl_117 S⟩
  · exact ⟨pc_102_5 p, st_118 S, pc_118_0 p, pc_118_1 p, st_119 S, sl_119 S, st_120 S, sl_120 S⟩
theorem machA_145 {B : Nat} {g : MT} {r : Nat → Nat → Option Nat} (S : Sh B g) (p : PtC B r) : MachA g r (B + 145) := by
  refine ⟨st_145 S, pc_145_0 p, st_146 S, sl_146 S, fun i hi => ?_, pc_145_1 p, st_165 S, sl_165 S, pc_145_2 p, ⟨st_166 S, pc_166_0 p, pc_166_1 p, st_167 S, sl_167 S, st_168 S, sl_168 S⟩, pc_145_3 p, ⟨st_169 S, pc_169_0 p, pc_169_1 p, st_170 S, sl_170 S, st_171 S, sl_171 S⟩⟩
  rcases six hi with rfl | rfl | rfl | rfl | rfl | rfl
  · exact ⟨pc_146_0 p, st_147 S, pc_147_0 p, pc_147_1 p, st_148 S, sl_148 S, st_149 S, sl_149 S⟩
  · exact ⟨pc_146_1 p, st_150 S, pc_150_0 p, pc_150_1 p, st_151 S, sl_151 S, st_152 S, sl_152 S⟩
  · exact ⟨pc_146_2 p, st_153 S, pc_153_0 p, pc_153_1 p, st_154 S, sl_154 S, st_155 S, sl_155 S⟩
  · exact ⟨pc_146_3 p, st_156 S, pc_156_0 p, pc_156_1 p, st_157 S, sl_157 S, st_158 S, sl_158 S⟩
  · exact ⟨pc_146_4 p, st_159 S, pc_159_0 p, pc_159_1 p, st_160 S, sl_160 S, st_161 S, sl_161 S⟩
  · exact ⟨pc_146_5 p, st_162 S, pc_162_0 p, pc_162_1 p, st_163 S, sl_163 S, st_164 S, sl_164 S⟩
/-- the marks of a machine are 0 or 1 -/
def BitsM (h : CT) (q : Nat) : Prop := (∀ r, r < 6 → is01 (hI h (q + 20) r)) ∧ (∀ r, r < 6 → ∀ i, i < 16 → is01 (hI h (q + 4 + 3 * r) i)) ∧ (∀ i, i < 4 → is01 (hI h (q + 23) i)) ∧ ∀ i, i < 64 → is01 (hI h (q + 26) i)
theorem MacD.bits {hc : CT} {q c v : Nat} {cc : Nat → Int32} {vv : Nat → UInt64} (H : MacD hc q cc vv c v) : BitsM hc q := ⟨H.2.2.2.2.1, fun r hr i hi => (H.2.2.2.2.2.2.1 r hr i hi).1, fun i hi => (H.2.2.2.2.2.2.2.1 i hi).1, fun i hi => (H.2.2.2.2.2.2.2.2 i hi).1⟩
section MCOPY
variable {g : MT} {h : CT} {a b : Nat}
theorem mach_rows (M1 : MachA g (hR h) a) (M2 : MachA g (hR h) b) (hab : a + 29 ≤ b ∨ b + 29 ≤ a) (hb : BitsM h b) : ∀ (d j f : Nat) (h1 : CT), j + d = 6 → d < f → hR h1 = hR h → (∀ x, (x < a ∨ a + 26 < x) → Eqa h h1 x) → (hI h1 a = hI h a) →
    ∃ h2, pX3_copyFrom_l2 g a b f (nI j) h1 = pX3_copyFrom_l2 g a b (f - d) (nI 6) h2 ∧ hR h2 = hR h ∧ (∀ x, (x < a ∨ a + 26 < x) → Eqa h h2 x) ∧ hI h2 a = hI h a
      ∧ (∀ r, r < j → hI h2 (a + 20) r = hI h1 (a + 20) r ∧ hD h2 (a + 3 + 3 * r) = hD h1 (a + 3 + 3 * r) ∧ hI h2 (a + 4 + 3 * r) = hI h1 (a + 4 + 3 * r))
      ∧ ∀ r, j ≤ r → r < 6 → hI h2 (a + 20) r = hI h (b + 20) r ∧ ∀ i, i < 16 → hD h2 (a + 3 + 3 * r) i = hD h (b + 3 + 3 * r) i ∧ hI h2 (a + 4 + 3 * r) i = hI h (b + 4 + 3 * r) i := by
  intro d
  induction d with
  | zero =>
    intro j f h1 e1 e2 e3 e4 e6
    obtain rfl : j = 6 := by omega
    exact ⟨h1, rfl, e3, e4, e6, fun r hr => ⟨rfl, rfl, rfl⟩, fun r r1 r2 => by omega⟩
  | succ d ih =>
    intro j f h1 e1 e2 e3 e4 e6
    obtain ⟨f, rfl⟩ : ∃ f', f = f' + 1 := ⟨f - 1, by omega⟩
    have hj : j < 6 := by omega
    obtain ⟨t1, r0, t2, l2, rs, r1, t3, l3, r2, sA, r3, mA⟩ := M1
    obtain ⟨s1, u0, s2, m2, us, u1, s3, m3, u2, sB, u3, mB⟩ := M2
    have hb20 : hI h1 (b + 20) = hI h (b + 20) := (e4 (b + 20) (by omega)).1
    obtain ⟨h3, c1, c2, c3⟩ := row_copy (h := sI h1 (a + 20) j (hI h (b + 20) j)) (a := a + 2 + 3 * j) (b := b + 2 + 3 * j) (n := 16) (by rw [hR_sI, e3]; exact (rs j hj).2) (by rw [hR_sI, e3]; exact (us j hj).2) (by omega) (by decide) (fun i hi => by
      rw [hI_sI, if_neg (by omega), show b + 2 + 3 * j + 2 = b + 4 + 3 * j by omega, (e4 (b + 4 + 3 * j) (by omega)).1]
      exact hb.2.1 j hj i hi)
    obtain ⟨h2, q1, q2, q3, q5, q6, q7⟩ := ih (j + 1) f h3 (by omega) (by omega) (c2.1.trans e3) (fun x hx => (((e4 x hx).sI (by omega)).tr (c2.2 x (by omega) (by omega)))) (by
      rw [(c2.2 a (by omega) (by omega)).1, hI_sI, if_neg (by omega)]; exact e6)
    refine ⟨h2, ?_, q2, q3, q5, fun r hr => ?_, fun r r1' r2' => ?_⟩
    · rw [show f + 1 - (d + 1) = f - d by omega, ← q1, pX3_copyFrom_l2, pX3_copyFrom_b2, if_neg (show ¬ 6 ≤ nI j from nI_ge (b := 6) hj (by decide))]
      have e7 : hR (sI h1 (a + 20) j (hI h (b + 20) j)) = hR h := e3
      simp only [w_lt, e3, e7, r1, u1, w_tg s1, w_nn, w_tg s3, m3, w_ix hj (show 6 < 2 ^ 31 by decide), nI_clamp (show j < 2 ^ 31 by omega), w_tg t3, l3, hb20, nar_bool (hb.1 j hj), r0, u0, w_tg t2, l2, w_tg s2, m2, (rs j hj).1, (us j hj).1, w_tg (rs j hj).2.1, w_tg (us j hj).2.1, c1, w_bd, nI_1]
    · obtain ⟨w1, w2, w3⟩ := q6 r (by omega)
      rw [w1, w2, w3, (c2.2 (a + 20) (by omega) (by omega)).1, (c2.2 (a + 3 + 3 * r) (by omega) (by omega)).2.2.1, (c2.2 (a + 4 + 3 * r) (by omega) (by omega)).1, hI_sI, if_pos rfl, ud_n (by omega), hD_sI, hI_sI, if_neg (by omega)]
      exact ⟨rfl, rfl, rfl⟩
    · by_cases e : r = j
      · subst e
        obtain ⟨w1, w2, w3⟩ := q6 r (by omega)
        rw [w1, w2, w3, (c2.2 (a + 20) (by omega) (by omega)).1, hI_sI, if_pos rfl, ud_s]
        refine ⟨rfl, fun i hi => ?_⟩
        obtain ⟨y1, y2⟩ := c3 i hi
        rw [show a + 3 + 3 * r = a + 2 + 3 * r + 1 by omega, y1, show a + 4 + 3 * r = a + 2 + 3 * r + 2 by omega, y2, hD_sI, hI_sI, if_neg (by omega), show b + 2 + 3 * r + 1 = b + 3 + 3 * r by omega, show b + 2 + 3 * r + 2 = b + 4 + 3 * r by omega, (e4 (b + 3 + 3 * r) (by omega)).2.2.1, (e4 (b + 4 + 3 * r) (by omega)).1]
        exact ⟨rfl, rfl⟩
      · exact q7 r (by omega) r2'
theorem mach_copy (M1 : MachA g (hR h) a) (M2 : MachA g (hR h) b) (hab : a + 29 ≤ b ∨ b + 29 ≤ a) (hb : BitsM h b) : ∃ h', pX3_copyFrom g h a b = some h' ∧ (∀ x, (x < a ∨ a + 26 < x) → Eqa h h' x) ∧ (∀ x k, ¬ (x = a ∧ k = 8) → hR h' x k = hR h x k) ∧ hR h' a 8 = hR h b 8
    ∧ (hI h' a 4 = hI h b 4 ∧ hI h' a 5 = hI h b 5 ∧ hI h' a 6 = hI h b 6 ∧ hI h' a 7 = hI h b 7)
    ∧ (∀ r, r < 6 → hI h' (a + 20) r = hI h (b + 20) r ∧ ∀ i, i < 16 → hD h' (a + 3 + 3 * r) i = hD h (b + 3 + 3 * r) i ∧ hI h' (a + 4 + 3 * r) i = hI h (b + 4 + 3 * r) i)
    ∧ (∀ i, i < 4 → hD h' (a + 22) i = hD h (b + 22) i ∧ hI h' (a + 23) i = hI h (b + 23) i) ∧ ∀ i, i < 64 → hD h' (a + 25) i = hD h (b + 25) i ∧ hI h' (a + 26) i = hI h (b + 26) i := by
  obtain ⟨h2, q1, q2, q3, q5, -, q7⟩ := mach_rows M1 M2 hab hb 6 0 FUEL h (by omega) (by unfold FUEL; omega) rfl (fun x _ => Eqa.rf h x) rfl
  obtain ⟨t1, r0, t2, l2, rs, r1, t3, l3, r2, sA, r3, mA⟩ := M1
  obtain ⟨s1, u0, s2, m2, us, u1, s3, m3, u2, sB, u3, mB⟩ := M2
  obtain ⟨h3, c1, c2, c3⟩ := row_copy (h := h2) (a := a + 21) (b := b + 21) (n := 4) (by rw [q2]; exact sA) (by rw [q2]; exact sB) (by omega) (by decide) (fun i hi => by
    rw [show b + 21 + 2 = b + 23 by omega, (q3 (b + 23) (by omega)).1]; exact hb.2.2.1 i hi)
  have e3 : hR h3 = hR h := c2.1.trans q2
  obtain ⟨h4, d1, d2, d3⟩ := row_copy (h := h3) (a := a + 24) (b := b + 24) (n := 64) (by rw [e3]; exact mA) (by rw [e3]; exact mB) (by omega) (by decide) (fun i hi => by
    rw [show b + 24 + 2 = b + 26 by omega, (c2.2 (b + 26) (by omega) (by omega)).1, (q3 (b + 26) (by omega)).1]; exact hb.2.2.2 i hi)
  have e4 : hR h4 = hR h := d2.1.trans e3
  have ha4 : hI h4 a = hI h a := by rw [(d2.2 a (by omega) (by omega)).1, (c2.2 a (by omega) (by omega)).1, q5]
  have hb4 : hI h4 b = hI h b := by rw [(d2.2 b (by omega) (by omega)).1, (c2.2 b (by omega) (by omega)).1, (q3 b (by omega)).1]
  have hba : ∀ (k : Nat) (x : Int32) (h : CT), hI (sI h a k x) b = hI h b := fun k x h => by rw [hI_sI, if_neg (by omega)]
  have fin : pX3_copyFrom g h a b = some (sR (sI (sI (sI (sI h4 a 4 (hI h b 4)) a 5 (hI h b 5)) a 6 (hI h b 6)) a 7 (hI h b 7)) a 8 (hR h b 8)) := by
    unfold pX3_copyFrom
    rw [w_tg t1]
    show pX3_copyFrom_l2 g a b FUEL (nI 0) h = _
    rw [q1, show FUEL - 6 = 4993 + 1 from rfl, pX3_copyFrom_l2, pX3_copyFrom_b2, if_pos (show 6 ≤ nI 6 from nI_le (a := 6) (by decide) (by decide))]
    simp only [w_lt, q2, r2, u2, w_tg s1, w_nn, w_tg sA.1, c1, w_bd, e3, r3, u3, w_tg mA.1, d1, hba, hb4, hR_sI, e4]
  refine ⟨_, fin, fun x hx => ?_, fun x k hk => ?_, ?_, ⟨?_, ?_, ?_, ?_⟩, fun r hr => ?_, fun i hi => ?_, fun i hi => ?_⟩
  · have hn : x ≠ a := by omega
    exact (((((((q3 x hx).tr (c2.2 x (by omega) (by omega))).tr (d2.2 x (by omega) (by omega))).sI hn).sI hn).sI hn).sI hn).sR hn
  · rw [hR_sR, hR_sI, hR_sI, hR_sI, hR_sI, e4]
    by_cases e : x = a
    · rw [if_pos e, ud_n (fun z => hk ⟨e, z⟩), e]
    · rw [if_neg e]
  · rw [hR_sR, if_pos rfl, ud_s]
  · simp only [hI_sR, hI_sI, if_true, ud]; rfl
  · simp only [hI_sR, hI_sI, if_true, ud]; rfl
  · simp only [hI_sR, hI_sI, if_true, ud]; rfl
  · simp only [hI_sR, hI_sI, if_true, ud]
  · obtain ⟨w1, w2⟩ := q7 r (by omega) hr
    refine ⟨?_, fun i hi => ?_⟩
    · rw [hI_sR, hI_sI, if_neg (by omega), hI_sI, if_neg (by omega), hI_sI, if_neg (by omega), hI_sI, if_neg (by omega), (d2.2 (a + 20) (by omega) (by omega)).1, (c2.2 (a + 20) (by omega) (by omega)).1]
      exact w1
    · obtain ⟨v1, v2⟩ := w2 i hi
      rw [hD_sR, hD_sI, hD_sI, hD_sI, hD_sI, (d2.2 (a + 3 + 3 * r) (by omega) (by omega)).2.2.1, (c2.2 (a + 3 + 3 * r) (by omega) (by omega)).2.2.1, hI_sR, hI_sI, if_neg (by omega), hI_sI, if_neg (by omega), hI_sI, if_neg (by omega), hI_sI, if_neg (by omega), (d2.2 (a + 4 + 3 * r) (by omega) (by omega)).1, (c2.2 (a + 4 + 3 * r) (by omega) (by omega)).1]
      exact ⟨v1, v2⟩
  · obtain ⟨v1, v2⟩ := c3 i hi
    rw [hD_sR, hD_sI, hD_sI, hD_sI, hD_sI, (d2.2 (a + 22) (by omega) (by omega)).2.2.1, hI_sR, hI_sI, if_neg (by omega), hI_sI, if_neg (by omega), hI_sI, if_neg (by omega), hI_sI, if_neg (by omega), (d2.2 (a + 23) (by omega) (by omega)).1, show a + 22 = a + 21 + 1 by omega, v1, show a + 23 = a + 21 + 2 by omega, v2, show b + 21 + 1 = b + 22 by omega, show b + 21 + 2 = b + 23 by omega, (q3 (b + 22) (by omega)).2.2.1, (q3 (b + 23) (by omega)).1]
    exact ⟨rfl, rfl⟩
  · obtain ⟨v1, v2⟩ := d3 i hi
    rw [hD_sR, hD_sI, hD_sI, hD_sI, hD_sI, hI_sR, hI_sI, if_neg (by omega), hI_sI, if_neg (by omega), hI_sI, if_neg (by omega), hI_sI, if_neg (by omega), show a + 25 = a + 24 + 1 by omega, v1, show a + 26 = a + 24 + 2 by omega, v2, show b + 24 + 1 = b + 25 by omega, show b + 24 + 2 = b + 26 by omega, (c2.2 (b + 25) (by omega) (by omega)).2.2.1, (c2.2 (b + 26) (by omega) (by omega)).1, (q3 (b + 25) (by omega)).2.2.1, (q3 (b + 26) (by omega)).1]
    exact ⟨rfl, rfl⟩
end MCOPY
