/-! which word of the LANGUAGE a token is, in both -/
section NAM
variable {B b L : Nat} {E : EC} {xs : Nat → Int32} {op st bt : Nat → Nat} {aL aS aO : Nat} {g : MT} {h h' h1 h2 : CT} {tp : Nat → Int32} {n p : Nat}
abbrev nmB (k : Nat) : List Int32 := stB (opD k).2.1
theorem nm_i : ∀ k, k < 28 → (opD k).2.1 < 45 := by decide +kernel
theorem nm_lt : ∀ k, k < 28 → 1 ≤ (nmB k).length ∧ (nmB k).length ≤ 8 ∧ ∀ j, j < (nmB k).length → 97 ≤ ((nmB k).getD j 0).toInt ∧ ((nmB k).getD j 0).toInt ≤ 122 := by decide +kernel
theorem nm_ne : ∀ k, k < 28 → ∀ k', k' < 28 → k ≠ k' → ((nmB k).length ≠ (nmB k').length ∨ ¬ ∀ j, j < (nmB k).length → (nmB k).getD j 0 = (nmB k').getD j 0) := by decide +kernel
theorem nm_uni {k k' : Nat} (hk : k < 28) (hk' : k' < 28) (t : isT tp n p (nmB k)) (t' : isT tp n p (nmB k')) : k = k' := by
  refine Classical.byContradiction fun ne => ?_
  rcases nm_ne k hk k' hk' ne with w | w
  · exact w (t.2.1.symm.trans t'.2.1)
  · exact w fun j hj => (t.2.2 j hj).symm.trans (t'.2.2 j (by rw [← t'.2.1, t.2.1]; exact hj))
/-- which one it is: 28 for none -/
theorem nm_ex (tp : Nat → Int32) (n p : Nat) : ∃ k0, k0 < 29 ∧ ∀ k, k < 28 → (isT tp n p (nmB k) ↔ k = k0) := by
  by_cases c : ∃ k, k < 28 ∧ isT tp n p (nmB k)
  · obtain ⟨k, hk, t⟩ := c
    exact ⟨k, by omega, fun j hj => ⟨fun t' => nm_uni hj hk t' t, fun e => by rw [e]; exact t⟩⟩
  · exact ⟨28, by omega, fun j hj => ⟨fun t => absurd ⟨j, hj, t⟩ c, fun e => by omega⟩⟩
theorem k_named (K : EOK E b L xs op st bt aL aS aO) (A : KA B g h tp n p) {k0 : Nat} (h0 : k0 < 29) (U : ∀ k, k < 28 → (isT tp n p (nmB k) ↔ k = k0)) : pX6_opNamed E g h (B + 11) = some (if k0 < 28 then some (op k0) else none, h) := by
  obtain ⟨o1, o2, o3⟩ := K.2.2.2.2.2.1
  have eO : E.1 1 = .ref aO := K.1.2.1
  have loop : ∀ (d j f : Nat), j + d = 28 → d < f → j ≤ k0 → pX6_opNamed_l9 E g (B + 11) f aO (nI 28) (nI j) h = some (if k0 < 28 then some (op k0) else none, h) := by
    intro d
    induction d with
    | zero =>
      intro j f ej hf hj
      obtain ⟨f, rfl⟩ : ∃ f', f = f' + 1 := ⟨f - 1, by omega⟩
      rw [pX6_opNamed_l9, pX6_opNamed_b9, if_pos (nI_le (by omega) (by omega)), if_neg (by omega)]
    | succ d ih =>
      intro j f ej hf hj
      obtain ⟨f, rfl⟩ : ∃ f', f = f' + 1 := ⟨f - 1, by omega⟩
      have T := K.2.1 j (by omega)
      rw [pX6_opNamed_l9, pX6_opNamed_b9, if_neg (nI_ge (by omega) (by omega)), w_tg o1, o2, w_ix (by omega) (by decide), w_lt, nI_clamp (by omega), o3 j (by omega), w_nn, w_tg T.1, w_lt, T.2.2.2.2.1, w_nn, k_txt K A (nm_i j (by omega)), w_bd2]
      by_cases c : j = k0
      · rw [if_pos ((U j (by omega)).mpr c), if_neg (by decide), ← c, if_pos (by omega)]
      · rw [if_neg (fun w => c ((U j (by omega)).mp w)), if_pos rfl, w_lt, nI_1]
        exact ih (j + 1) f (by omega) (by omega) (by omega)
  unfold pX6_opNamed
  rw [w_tg A.1.1, eO, w_kR, w_tg o1, w_lt, o2]
  exact loop 28 0 FUEL (by omega) (by decide) (by omega)
theorem m_named (A : QA B g h tp n p) {k0 : Nat} (h0 : k0 < 29) (U : ∀ k, k < 28 → (isT tp n p (nmB k) ↔ k = k0)) : pX13_codeWord g h (B + 187) = some (if k0 < 27 then nI k0 else -1) ∧ pX13_isEnd g h (B + 187) = some (if k0 = 27 then 1 else 0) := by
  have S := A.1.1
  have W : ∀ k, k < 28 → ∀ w : Int64, w = wdV (fun j => (nmB k).getD j 0) 0 (nmB k).length → pX13_isWord g h (B + 187) w = some (if k = k0 then 1 else 0) := fun k hk w hw => by
    obtain ⟨a1, a2, a3⟩ := nm_lt k hk
    rw [m_wrd A a1 a2 a3 hw]
    by_cases c : k = k0
    · rw [if_pos ((U k hk).mpr c), if_pos c]
    · rw [if_neg (fun w => c ((U k hk).mp w)), if_neg c]
  have w0 := W 0 (by decide) (pX13_spelled 115 101 116 118 108 0) (by decide +kernel)
  have w1 := W 1 (by decide) (pX13_spelled 105 111 116 97 0 0) (by decide +kernel)
  have w2 := W 2 (by decide) (pX13_spelled 102 105 108 108 0 0) (by decide +kernel)
  have w3 := W 3 (by decide) (pX13_spelled 108 111 97 100 0 0) (by decide +kernel)
  have w4 := W 4 (by decide) (pX13_spelled 115 116 111 114 101 0) (by decide +kernel)
  have w5 := W 5 (by decide) (pX13_spelled 103 97 116 104 101 114) (by decide +kernel)
  have w6 := W 6 (by decide) (((pX13_spelled 115 99 97 116 116 101) * 32) + 18) (by decide +kernel)
  have w7 := W 7 (by decide) (pX13_spelled 97 100 100 0 0 0) (by decide +kernel)
  have w8 := W 8 (by decide) (pX13_spelled 115 117 98 0 0 0) (by decide +kernel)
  have w9 := W 9 (by decide) (pX13_spelled 109 117 108 0 0 0) (by decide +kernel)
  have w10 := W 10 (by decide) (pX13_spelled 100 105 118 0 0 0) (by decide +kernel)
  have w11 := W 11 (by decide) (pX13_spelled 114 101 109 0 0 0) (by decide +kernel)
  have w12 := W 12 (by decide) (pX13_spelled 109 105 110 0 0 0) (by decide +kernel)
  have w13 := W 13 (by decide) (pX13_spelled 109 97 120 0 0 0) (by decide +kernel)
  have w14 := W 14 (by decide) (pX13_spelled 99 111 112 121 0 0) (by decide +kernel)
  have w15 := W 15 (by decide) (pX13_spelled 115 105 110 103 108 101) (by decide +kernel)
  have w16 := W 16 (by decide) (pX13_spelled 119 104 111 108 101 0) (by decide +kernel)
  have w17 := W 17 (by decide) (pX13_spelled 108 101 115 115 0 0) (by decide +kernel)
  have w18 := W 18 (by decide) (pX13_spelled 115 97 109 101 0 0) (by decide +kernel)
  have w19 := W 19 (by decide) (pX13_spelled 111 100 100 0 0 0) (by decide +kernel)
  have w20 := W 20 (by decide) (pX13_spelled 102 108 105 112 0 0) (by decide +kernel)
  have w21 := W 21 (by decide) (pX13_spelled 112 97 99 107 0 0) (by decide +kernel)
  have w22 := W 22 (by decide) (pX13_spelled 99 111 117 110 116 0) (by decide +kernel)
  have w23 := W 23 (by decide) (pX13_spelled 102 111 108 100 0 0) (by decide +kernel)
  have w24 := W 24 (by decide) (pX13_spelled 116 111 112 0 0 0) (by decide +kernel)
  have w25 := W 25 (by decide) (pX13_spelled 115 116 114 105 112 0) (by decide +kernel)
  have w26 := W 26 (by decide) (pX13_spelled 115 116 111 112 0 0) (by decide +kernel)
  have w27 := W 27 (by decide) (pX13_spelled 101 110 100 0 0 0) (by decide +kernel)
  have tw := st_187 S
  constructor
  · unfold pX13_codeWord pX13_twoWord pX13_oneWord pX13_memoryWord pX13_maskWord pX13_scalarWord pX13_plainWord
    simp only [w_tg tw, w0, w1, w2, w3, w4, w5, w6, w7, w8, w9, w10, w11, w12, w13, w14, w15, w16, w17, w18, w19, w20, w21, w22, w23, w24, w25, w26]
    clear w0 w1 w2 w3 w4 w5 w6 w7 w8 w9 w10 w11 w12 w13 w14 w15 w16 w17 w18 w19 w20 w21 w22 w23 w24 w25 w26 w27 W U A S tw
    revert k0
    decide +kernel
  · unfold pX13_isEnd
    rw [w_tg tw, w27, w_bd]
    by_cases c : 27 = k0
    · rw [if_pos c, w_bz1, if_pos c.symm]
    · rw [if_neg c, w_bz0, if_neg (fun e => c e.symm)]
end NAM
