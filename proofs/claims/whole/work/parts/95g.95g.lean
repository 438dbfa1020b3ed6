/-! INSTRUCTIONS without elements, in both -/
section ATO
variable {B b L : Nat} {E : EC} {xs : Nat → Int32} {op st bt : Nat → Nat} {aL aS aO : Nat} {g : MT} {h h1 hr hr1 : CT} {q z p : Nat} {f : Nat → Nat} {ik n nb y t T : Nat} {F : Nat → Nat → Nat} {G G0 : Nat → Nat → Int32}
/-- what stands between INSTRUCTIONS, but the TIMES -/
def MS (B q z : Nat) (g : MT) (nb y : Nat) (h hr : CT) : Prop := RunC B q z g h ∧ PtR B (hR hr) ∧ DM B q h hr ∧ (hI h q 6 = nI nb ∧ hI h q 7 = nI y) ∧ (hI hr (B + 192) 1 = nI nb ∧ hI hr (B + 192) 2 = nI y) ∧ hI hr (B + 187) 33 = hI h (B + 132) 9 ∧ hI hr (B + 187) 37 = 0 ∧ hI hr (B + 187) 40 = 0
theorem SP.ms (X : SP B q z op g p f ik n nb y h hr) : MS B q z g nb y h hr := ⟨X.1, X.2.1, X.2.2.1, X.2.2.2.2.2.1.2, X.2.2.2.2.2.2.1.2, X.2.2.2.2.2.2.2.1, X.2.2.2.2.2.2.2.2⟩
theorem MS.sp (X : MS B q z g nb y h hr) (I : IC op g h p f) (M : IM B hr ik f) (e1 : hI h q 5 = nI n) (e2 : hI hr (B + 192) 0 = nI n) : SP B q z op g p f ik n nb y h hr := ⟨X.1, X.2.1, X.2.2.1, I, M, ⟨e1, X.2.2.2.1⟩, ⟨e2, X.2.2.2.2.1⟩, X.2.2.2.2.2⟩
theorem k_sw (K : EOK E b L xs op st bt aL aS aO) (S : Sh B g) (I : IC op g h p f) (hf : FOK f) : pX9_doAtOnce E g h (B + 132) (nI ik) p = (let x9 := swV.getD (f 0) 0; if x9 = 1 then lt (hR h (B + 132) 4) fun r11 => (nn r11 fun a11 => (tg g a11 3 (lt (sI h a11 5 (hI h p 7)) fun h13 => (some (1, h13))))) else (if x9 = 2 then lt (hR h (B + 132) 4) fun r15 => (nn r15 fun a15 => (tg g a15 3 (lt (hR h (B + 132) 4) fun r17 => (nn r17 fun a17 => (tg g a17 3 (bd (pX3_lowBits g h a17) fun x19 => (lt (sI h a15 4 ((hI h a15 4) ^^^ x19)) fun h21 => (lt (hR h21 (B + 132) 5) fun r22 => (nn r22 fun a22 => (tg g a22 9 (bd (pX10_flip g h21 a22) fun h24 => (some (1, h24))))))))))))) else (if x9 = 3 then lt (hR h (B + 132) 2) fun r27 => (lt (hR h (B + 132) 4) fun r28 => (nn r28 fun a28 => (tg g a28 3 (lt (hR h (B + 132) 4) fun r30 => (nn r30 fun a30 => (tg g a30 3 (bd (pX3_lowBits g h a30) fun x32 => (nn r27 fun a27 => (tg g a27 4 (bd (pX4_set g h a27 (fi2d (pJ6_bitCount_0f7a4 ((hI h a28 4) &&& x32)))) fun h35 => (lt (hR h35 (B + 132) 4) fun r37 => (nn r37 fun a37 => (tg g a37 3 (lt (hR h35 a37 2) fun r39 => (lt (hR h35 (B + 132) 2) fun r40 => (nn r39 fun a39 => (tg g a39 7 (nn r40 fun a40 => (bd (pX8_keep g h35 a39 (hI h35 p 4) a40) fun h42 => (lt (hR h42 (B + 132) 5) fun r44 => (nn r44 fun a44 => (tg g a44 9 (bd (pX10_count g h42 a44 (nI ik)) fun h46 => (some (1, h46))))))))))))))))))))))))) else (if x9 = 4 then bd2 (pX9_doFold E g h (B + 132) (nI ik) p) fun x51 h49 => (bz x51 (some (x51, h49))) else (if x9 = 5 then bd2 (pX9_doFold E g h (B + 132) (nI ik) p) fun x56 h54 => (bz x56 (some (x56, h54))) else (some (1, h))))))) := by
  have T60 := k_tag K hf.1
  have h28 : f 0 < 28 := Nat.lt_of_lt_of_le hf.1 (by decide)
  unfold pX9_doAtOnce
  rw [w_tg (st_132 S), K.1.2.2.1, w_kR, w_tg I.1, w_lt, I.2.1, w_nn, w_tg T60, k_ord K hf.1, w_bd, w_tg K.2.2.2.2.1.1, K.2.2.2.2.1.2.1, w_ix h28 (by decide), nI_clamp (Nat.lt_trans h28 (by decide)), K.2.2.2.2.1.2.2 _ h28, w_lt]
/-- setvl -/
theorem setvl_both (K : EOK E b L xs op st bt aL aS aO) (S : Sh B g) (Q : QZ B q z) (X : MS B q z g nb y h hr) (I : IC op g h p f) (M : IM B hr ik f) (hf : FOK f) (hk : ik < 30) (e0 : f 0 = 0) (C : TC z h F G) (Ct : TR B y hr F G) :
    ∃ h' hr', pX9_doAtOnce E g h (B + 132) (nI ik) p = some (1, h') ∧ (lt (hR hr (B + 187) 19) fun r22 => (bd (pX13_at g hr (B + 187) (nI ik) 4) fun x23 => (nn r22 fun a22 => (tg g a22 20 (ix (gL g a22) 0 (lt (sI hr a22 (Int32.toNatClampNeg 0) x23) fun h27 => (some h27))))))) = some hr' ∧ MS B q z g nb y h' hr' ∧ TC z h' F G ∧ TR B y hr' F G ∧ NFr B q z h h' ∧ MFr B hr hr' ∧ ∀ j, j = 3 ∨ j = 4 ∨ j = 5 → hI h' z j = hI h z j := by
  obtain ⟨R, p2, D, ⟨e6, e7⟩, ⟨v1, v2⟩, eb, tr0, ov0⟩ := X
  have a4 := (im_at S p2 hk M).2.2.2.2.1
  rw [if_pos (Or.inl e0)] at a4
  have h16 : f 7 ≤ 16 := hf.2.2.2.2.2.2.2.2.1 e0
  have cl : pX9_doAtOnce E g h (B + 132) (nI ik) p = some (1, sI h q 5 (nI (f 7))) := by
    rw [k_sw K S I hf, e0]
    show (if (1 : Int32) = 1 then _ else _) = _
    rw [if_pos rfl, w_lt, R.2.1, w_nn, w_tg R.2.2.2.1.1, w_lt, I.2.2 7 (by decide) (by decide)]
  have fr : NFr B q z h (sI h q 5 (nI (f 7))) := ⟨rfl, fun w a _ _ => ⟨by rw [hI_sI, if_neg (by omega)], rfl, rfl⟩, fun k _ => by rw [hI_sI, if_neg (by omega)], fun _ _ => rfl, ⟨by rw [hI_sI, if_neg (by omega)]; exact R.2.2.2.2.2.2.1, by rw [hI_sI, if_neg (by omega)]; exact R.2.2.2.2.2.2.2⟩, fun j _ => by rw [hI_sI, if_neg (by omega)]⟩
  have D1 := dm_vl Q D h16
  have fm : MFr B hr (sI hr (B + 192) 0 (nI (f 7))) := ⟨rfl, fun w a c => (Eqa.rf hr w).sI (by omega), fun k _ => by rw [hI_sI, if_neg (by omega)], rfl, fun i hi => by rw [hI_sI, if_pos rfl, ud_n (by omega)], fun _ _ => rfl⟩
  refine ⟨_, sI hr (B + 192) 0 (nI (f 7)), cl, ?_, ⟨R.keep rfl rfl fr.2.2.2.2.1, p2, D1, ⟨?_, ?_⟩, ⟨?_, ?_⟩, ?_, ?_, ?_⟩, C.rw (fun w w1 w2 => by rw [hI_sI, if_neg (by omega)]), Ct.rw (fun k _ => by rw [hI_sI, if_neg (by omega)]) (fun w w1 w2 => by rw [hI_sI, if_neg (by omega)]), fr, fm, fun j _ => by rw [hI_sI, if_neg (by omega)]⟩
  · rw [w_lt, pr_187_19 p2, a4, w_bd, w_nn, w_tg (st_192 S), sl_192 S, w_ixl (show 0 < 1476 by decide) (by decide), cl_l 0 (by decide), w_lt]
  · rw [hI_sI, if_pos rfl, ud_n (by decide)]; exact e6
  · rw [hI_sI, if_pos rfl, ud_n (by decide)]; exact e7
  · rw [hI_sI, if_pos rfl, ud_n (by decide)]; exact v1
  · rw [hI_sI, if_pos rfl, ud_n (by decide)]; exact v2
  · rw [hI_sI, if_neg (by omega), hI_sI, if_neg (by omega)]; exact eb
  · rw [hI_sI, if_neg (by omega)]; exact tr0
  · rw [hI_sI, if_neg (by omega)]; exact ov0
theorem xor_mask {m n : Nat} (hm : m < 65536) (hn : n ≤ 16) : ∃ k, k < 65536 ∧ nI m ^^^ (((1 : Int32) <<< (nI n &&& 31)) - 1) = nI k := by
  refine ⟨_, ?_, nI_bv _⟩
  rw [low_bits n hn]
  show (nI m).toBitVec.toNat ^^^ (nI (2 ^ n - 1)).toBitVec.toNat < 65536
  have h2 : 2 ^ n ≤ 2 ^ 16 := Nat.pow_le_pow_right (by decide) hn
  rw [bv_nI (by omega), bv_nI (by omega)]
  exact Nat.xor_lt_two_pow (n := 16) hm (by omega)
/-- flip -/
theorem flip_both (K : EOK E b L xs op st bt aL aS aO) (S : Sh B g) (Q : QZ B q z) (X : MS B q z g nb y h hr) (I : IC op g h p f) (M : IM B hr ik f) (hf : FOK f) (hk : ik < 30) (e0 : f 0 = 20) (hn : n ≤ 16) (e5 : hI h q 5 = nI n) (v0 : hI hr (B + 192) 0 = nI n) (C : TC z h F G) (Ct : TR B y hr F G) (hF : ∀ a j, F a j ≤ T) (hT : T + 100 < 2 ^ 30) (h8 : F 0 8 = t + 1) :
    ∃ h' hr', pX9_doAtOnce E g h (B + 132) (nI ik) p = some (1, h') ∧ pX13_flips g hr (B + 187) (nI t) = some hr' ∧ MS B q z g nb y h' hr' ∧ TC z h' (up2 (up2 (up2 F 0 12 (max (F 0 12) t)) 0 11 (t + 1)) 0 0 (max (F 0 0) (t + 1))) G ∧ TR B y hr' (up2 (up2 (up2 F 0 12 (max (F 0 12) t)) 0 11 (t + 1)) 0 0 (max (F 0 0) (t + 1))) G ∧ NFr B q z h h' ∧ MFr B hr hr' ∧ ∀ j, j = 3 ∨ j = 4 ∨ j = 5 → hI h' z j = hI h z j := by
  obtain ⟨R, p2, D, ⟨e6, e7⟩, ⟨v1, v2⟩, eb, tr0, ov0⟩ := X
  obtain ⟨m, m1, m2, m3⟩ := dm_mk D
  obtain ⟨k, k1, k2⟩ := xor_mask m1 hn
  have D1 := dm_mask Q D k1
  have u8 := hF 0 8
  have u12 := hF 0 12
  have u0 := hF 0 0
  have fr : NFr B q z h (sI h q 4 (nI k)) := ⟨rfl, fun w a _ _ => ⟨by rw [hI_sI, if_neg (by omega)], rfl, rfl⟩, fun k _ => by rw [hI_sI, if_neg (by omega)], fun _ _ => rfl, ⟨by rw [hI_sI, if_neg (by omega)]; exact R.2.2.2.2.2.2.1, by rw [hI_sI, if_neg (by omega)]; exact R.2.2.2.2.2.2.2⟩, fun j _ => by rw [hI_sI, if_neg (by omega)]⟩
  have C1 : TC z (sI h q 4 (nI k)) F G := C.rw (fun w w1 w2 => by rw [hI_sI, if_neg (by omega)])
  have R1 : RunC B q z g (sI h q 4 (nI k)) := R.keep rfl rfl fr.2.2.2.2.1
  obtain ⟨h2, f1, f2, f3⟩ := t_flip R1.2.2.2.2.1 C1 hF (by omega) h8
  have cl : pX9_doAtOnce E g h (B + 132) (nI ik) p = some (1, h2) := by
    rw [k_sw K S I hf, e0]
    show (if (2 : Int32) = 1 then _ else if (2 : Int32) = 2 then _ else _) = _
    rw [if_neg (by decide), if_pos rfl, w_lt, R.2.1, w_nn, w_tg R.2.2.2.1.1, w_lt, w_nn, w_tg R.2.2.2.1.1]
    unfold pX3_lowBits
    rw [w_tg R.2.2.2.1.1, e5, w_bd, m2, k2, w_lt, w_lt, R1.2.2.1, w_nn, w_tg R.2.2.2.2.1.1, f1, w_bd]
  have fm : MFr B hr (sI hr (B + 192) 3 (nI k)) := ⟨rfl, fun w a c => (Eqa.rf hr w).sI (by omega), fun k _ => by rw [hI_sI, if_neg (by omega)], rfl, fun i hi => by rw [hI_sI, if_pos rfl, ud_n (by omega)], fun _ _ => rfl⟩
  have Ct1 : TR B y (sI hr (B + 192) 3 (nI k)) F G := Ct.rw (fun k _ => by rw [hI_sI, if_neg (by omega)]) (fun w w1 w2 => by rw [hI_sI, if_neg (by omega)])
  have e12 : hI (sI hr (B + 192) 3 (nI k)) (B + 187) 30 = nI (F 0 12) := Ct1.1 12 (by decide)
  have Ct2 : TR B y (sI (sI hr (B + 192) 3 (nI k)) (B + 187) 30 (nI (max (F 0 12) t))) _ G := Ct1.o (j := 12) (v := max (F 0 12) t) (by decide)
  have Ct3 : TR B y (sI (sI (sI hr (B + 192) 3 (nI k)) (B + 187) 30 (nI (max (F 0 12) t))) (B + 187) 29 (nI (t + 1))) _ G := Ct2.o (j := 11) (v := t + 1) (by decide)
  have e00 : hI (sI (sI (sI hr (B + 192) 3 (nI k)) (B + 187) 30 (nI (max (F 0 12) t))) (B + 187) 29 (nI (t + 1))) (B + 187) 34 = nI (F 0 0) := by
    have := Ct3.1 0 (by decide)
    rw [up2_n (by omega), up2_n (by omega)] at this
    exact this
  have fr4 : RFr B (sI hr (B + 192) 3 (nI k)) (sI (sI (sI (sI hr (B + 192) 3 (nI k)) (B + 187) 30 (nI (max (F 0 12) t))) (B + 187) 29 (nI (t + 1))) (B + 187) 34 (nI (max (F 0 0) (t + 1)))) := (((RFr.rf B _).o (by decide)).o (by decide)).o (by decide)
  refine ⟨h2, sI (sI (sI (sI hr (B + 192) 3 (nI k)) (B + 187) 30 (nI (max (F 0 12) t))) (B + 187) 29 (nI (t + 1))) (B + 187) 34 (nI (max (F 0 0) (t + 1))), cl, ?_, ⟨f3.run Q R1, p2, fr4.dm (f3.dm Q D1), ⟨?_, ?_⟩, ⟨?_, ?_⟩, ?_, ?_, ?_⟩, f2, Ct3.o (j := 0) (by decide), fr.tr (f3.nf Q R1.2.2.2.2.2.2), fm.tr fr4.m, fun j hj => by rw [f3.2.2 j hj, hI_sI, if_neg (by omega)]⟩
  · unfold pX13_flips
    rw [w_tg (st_187 S), w_lt, pr_187_19 p2, w_nn, w_tg (st_192 S), sl_192 S, show (3 : Int32) = nI 3 from rfl, w_ix (show 3 < 1476 by decide) (by decide), w_lt, w_nn, w_tg (st_192 S), sl_192 S, w_ixl (show 0 < 1476 by decide) (by decide), w_ix (show 3 < 1476 by decide) (by decide), nI_clamp (show 3 < 2 ^ 31 by decide), cl_l 0 (by decide), v0, m3, k2, w_lt, e12, max_nI (by omega) (by omega), w_lt, nI_1, w_lt, hI_s, r_lasts S e00 (by omega) (by omega), w_bd]
  · rw [(f3.2.1 q (by omega)).1, hI_sI, if_pos rfl, ud_n (by decide)]; exact e6
  · rw [(f3.2.1 q (by omega)).1, hI_sI, if_pos rfl, ud_n (by decide)]; exact e7
  · rw [(fr4.2.1 (B + 192) (by omega) (by omega)).1, hI_sI, if_pos rfl, ud_n (by decide)]; exact v1
  · rw [(fr4.2.1 (B + 192) (by omega) (by omega)).1, hI_sI, if_pos rfl, ud_n (by decide)]; exact v2
  · rw [fr4.2.2.1 33 (by decide) (by decide), hI_sI, if_neg (by omega), f3.br Q, hI_sI, if_neg (by omega)]; exact eb
  · rw [fr4.2.2.1 37 (by decide) (by decide), hI_sI, if_neg (by omega)]; exact tr0
  · rw [fr4.2.2.1 40 (by decide) (by decide), hI_sI, if_neg (by omega)]; exact ov0
end ATO
