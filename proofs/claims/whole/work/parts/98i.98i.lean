/-! a token's text: which word it is, in both -/
section WRD
variable {B b L : Nat} {E : EC} {xs : Nat → Int32} {op st bt : Nat → Nat} {aL aS aO : Nat} {g : MT} {h h' h1 h2 : CT} {tp : Nat → Int32} {n p : Nat}
abbrev stB (i : Nat) : List Int32 := (stD i).2.2.2
theorem st_chr : ∀ i, i < 45 → ∀ j, j < (stB i).length → UInt32.toInt32 (Int32.toUInt32 (((stB i).getD j 0) &&& 255) % 65536) = (stB i).getD j 0 ∧ narrow .char (.int ((stB i).getD j 0)) = .int ((stB i).getD j 0) := by decide +kernel
theorem stb_len : ∀ i, i < 45 → (stB i).length ≤ 7 := by decide +kernel
theorem k_len (K : EOK E b L xs op st bt aL aS aO) {i : Nat} (hi : i < 45) : pJ0_length_8abf5 E g h (st i) = some (nI (stB i).length) := by
  obtain ⟨t1, t2, t3, t4, t5, t6⟩ := K.2.2.1 i hi
  have l7 := stb_len i hi
  have t5 : gL E.2.2 (bt i) = (stB i).length := t5
  have t6 : ∀ j, j < (stB i).length → hI E.2.1 (bt i) j = (stB i).getD j 0 := t6
  have e4 : E.1 4 = .int 1 := K.1.2.2.2.2.1
  have cd : pJ0_coder_7d493 E g h (st i) = some 0 := by
    unfold pJ0_coder_7d493
    rw [e4]
    unfold kI
    simp only []
    rw [if_neg (show ¬ (1 : Int32) = 0 by decide), w_tg t1, t3]
    rfl
  unfold pJ0_length_8abf5
  rw [w_tg t1, w_lt, t2, w_nn, w_tg t4, cd, w_bd, t5]
  have : ∀ m, m ≤ 7 → (Int32.ofNat m) >>> ((0 : Int32) &&& 31) = nI m := by decide +kernel
  rw [this _ l7]
theorem k_chr (K : EOK E b L xs op st bt aL aS aO) {i j : Nat} (hi : i < 45) (hj : j < (stB i).length) : pJ0_charAt_5068e E g h (st i) (nI j) = some ((stB i).getD j 0, h) := by
  obtain ⟨t1, t2, t3, t4, t5, t6⟩ := K.2.2.1 i hi
  have l7 := stb_len i hi
  have t5 : gL E.2.2 (bt i) = (stB i).length := t5
  have t6 : ∀ j, j < (stB i).length → hI E.2.1 (bt i) j = (stB i).getD j 0 := t6
  have e4 : E.1 4 = .int 1 := K.1.2.2.2.2.1
  obtain ⟨r33, e33⟩ := K.1.2.2.2.2.2.2.1
  obtain ⟨c1, c2⟩ := st_chr i hi j hj
  have il : pJ0_isLatin1_aae02 E g h (st i) = some 1 := by
    unfold pJ0_isLatin1_aae02
    rw [e4]
    unfold kI
    simp only []
    rw [if_neg (show ¬ (1 : Int32) = 0 by decide), w_tg t1, t3]
    rfl
  have ci : pJ0_checkIndex_df160 E g h (nI j) (Int32.ofNat (gL E.2.2 (bt i))) = some h := by
    unfold pJ0_checkIndex_df160
    rw [e33]
    have : pJ3_checkIndex_8e157 g h (nI j) (Int32.ofNat (gL E.2.2 (bt i))) r33 = some (nI j) := by
      unfold pJ3_checkIndex_8e157
      rw [if_neg (nI_pos (by omega)), t5]
      exact if_pos (show nI j < nI (stB i).length from nI_lt hj (by omega))
    cases r33 with
    | none => show bd (pJ3_checkIndex_8e157 g h (nI j) (Int32.ofNat (gL E.2.2 (bt i))) none) _ = _; rw [this]; rfl
    | some a => show bd (pJ3_checkIndex_8e157 g h (nI j) (Int32.ofNat (gL E.2.2 (bt i))) (some a)) _ = _; rw [this]; rfl
  have ch : pJ1_charAt_3b067 E g h (bt i) (nI j) = some ((stB i).getD j 0, h) := by
    unfold pJ1_charAt_3b067
    rw [w_tg t4, ci, w_bd, t5, w_ix hj (by omega), nI_clamp (by omega), t6 j hj, c1]
    unfold nr
    rw [if_pos c2]
  unfold pJ0_charAt_5068e
  rw [w_tg t1, il, w_bd, if_neg (by decide), w_lt, t2, w_nn, ch, w_bd2]
  unfold nr
  rw [if_pos c2]
/-- the token from p on is the text -/
abbrev isT (tp : Nat → Int32) (n p : Nat) (l : List Int32) : Prop := tK tp n p = 1 ∧ tE tp n p - tS tp n p = l.length ∧ ∀ j, j < l.length → tp (tS tp n p + j) = l.getD j 0
/-- the class's parser stands at the token from p on -/
def KA (B : Nat) (g : MT) (h : CT) (tp : Nat → Int32) (n p : Nat) : Prop := KT B g h tp n ∧ p ≤ n ∧ tS tp n p < n ∧ hI h (B + 11) 4 = nI (tS tp n p) ∧ hI h (B + 11) 5 = nI (tE tp n p) ∧ hI h (B + 11) 6 = tK tp n p
theorem k_txt (K : EOK E b L xs op st bt aL aS aO) (A : KA B g h tp n p) {i : Nat} (hi : i < 45) : pX6_isText E g h (B + 11) (st i) = some (if isT tp n p (stB i) then 1 else 0, h) := by
  obtain ⟨T, hp, sn, e4, e5, e6⟩ := A
  obtain ⟨t1, t2, t3, t4, t5, t6, n900⟩ := T
  have T61 := (K.2.2.1 i hi).1
  have l7 := stb_len i hi
  have el := tE_le (tp := tp) hp
  have sub : hI h (B + 11) 5 - hI h (B + 11) 4 = nI (tE tp n p - tS tp n p) := by rw [e4, e5]; exact pk_sub el.1
  unfold pX6_isText
  rw [w_tg t1, e6]
  by_cases c1 : tK tp n p = 1
  · rw [if_pos c1, w_tg T61, k_len K hi, w_bd, sub]
    by_cases c2 : tE tp n p - tS tp n p = (stB i).length
    · rw [if_pos (by rw [c2])]
      have loop : ∀ (d j f : Nat), j + d = (stB i).length → d < f → (∀ m, m < j → tp (tS tp n p + m) = (stB i).getD m 0) → pX6_isText_l28 E g (B + 11) (st i) f (nI j) h = some (if isT tp n p (stB i) then 1 else 0, h) := by
        intro d
        induction d with
        | zero =>
          intro j f ej hf all
          obtain ⟨f, rfl⟩ : ∃ f', f = f' + 1 := ⟨f - 1, by omega⟩
          rw [pX6_isText_l28, pX6_isText_b28, w_tg T61, k_len K hi, w_bd, if_pos (nI_le (by omega) (by omega)), if_pos (show isT tp n p (stB i) from ⟨c1, c2, fun m hm => all m (by omega)⟩)]
        | succ d ih =>
          intro j f ej hf all
          obtain ⟨f, rfl⟩ : ∃ f', f = f' + 1 := ⟨f - 1, by omega⟩
          rw [pX6_isText_l28, pX6_isText_b28, w_tg T61, k_len K hi, w_bd, if_neg (nI_ge (by omega) (by omega)), w_lt, t2, w_nn, w_tg t3, t4, e4, nI_add, w_ix (by omega) (by decide), k_chr K hi (show j < (stB i).length by omega), w_bd2, nI_clamp (by omega), t5]
          by_cases c3 : tp (tS tp n p + j) = (stB i).getD j 0
          · rw [if_pos c3, w_lt, nI_1]
            exact ih (j + 1) f (by omega) (by omega) (fun m hm => by
              by_cases e : m = j
              · rw [e]; exact c3
              · exact all m (by omega))
          · rw [if_neg c3, if_neg (fun w => c3 (w.2.2 j (by omega)))]
      exact loop _ 0 FUEL (Nat.zero_add _) (by
        have : 100 < FUEL := by decide
        omega) (fun m hm => by omega)
    · rw [if_neg (fun w => c2 ((nI_eq (by omega) (by omega)).mp w)), if_neg (fun w => c2 w.2.1)]
  · rw [if_neg c1, if_neg (fun w => c1 w.1)]
-- words as numbers
def ltr (x : Int32) : Prop := 97 ≤ x.toInt ∧ x.toInt ≤ 122
theorem ltr_of {x : Int32} (h : pX6_sortOf x = 1) : ltr x := by
  unfold pX6_sortOf pX6_sortOf_b14 pX6_sortOf_b28 at h
  by_cases c : x < 97
  · rw [if_pos c] at h
    repeat' split at h
    all_goals exact absurd h (by decide)
  · rw [if_neg c] at h
    by_cases d : 122 < x
    · rw [if_pos d] at h
      repeat' split at h
      all_goals exact absurd h (by decide)
    · rw [Int32.lt_iff_toInt_lt] at c d
      have e1 : (97 : Int32).toInt = 97 := rfl
      have e2 : (122 : Int32).toInt = 122 := rfl
      exact ⟨by omega, by omega⟩
def vlN (f : Nat → Int32) : Nat → Nat
  | 0 => 0
  | i + 1 => vlN f i * 32 + ((f i).toInt.toNat - 96)
theorem vlN_lt {f : Nat → Int32} : ∀ m, (∀ j, j < m → ltr (f j)) → vlN f m < 32 ^ m := by
  intro m
  induction m with
  | zero => intro _; show 0 < 1; decide
  | succ m ih =>
    intro hl
    have h1 := ih fun j hj => hl j (by omega)
    obtain ⟨l1, l2⟩ := hl m (by omega)
    show vlN f m * 32 + ((f m).toInt.toNat - 96) < 32 ^ (m + 1)
    rw [Nat.pow_succ]
    omega
theorem vlN_inj {f f' : Nat → Int32} : ∀ m m', (∀ j, j < m → ltr (f j)) → (∀ j, j < m' → ltr (f' j)) → vlN f m = vlN f' m' → m = m' ∧ ∀ j, j < m → f j = f' j := by
  intro m
  induction m with
  | zero =>
    intro m' _ hl e
    cases m' with
    | zero => exact ⟨rfl, fun j hj => by omega⟩
    | succ m' =>
      obtain ⟨l1, l2⟩ := hl m' (by omega)
      have : 0 = vlN f' m' * 32 + ((f' m').toInt.toNat - 96) := e
      omega
  | succ m ih =>
    intro m' hl hl' e
    obtain ⟨l1, l2⟩ := hl m (by omega)
    cases m' with
    | zero =>
      have : vlN f m * 32 + ((f m).toInt.toNat - 96) = 0 := e
      omega
    | succ m' =>
      obtain ⟨k1, k2⟩ := hl' m' (by omega)
      have e' : vlN f m * 32 + ((f m).toInt.toNat - 96) = vlN f' m' * 32 + ((f' m').toInt.toNat - 96) := e
      obtain ⟨q1, q2⟩ := ih m' (fun j hj => hl j (by omega)) (fun j hj => hl' j (by omega)) (by omega)
      refine ⟨by omega, fun j hj => ?_⟩
      by_cases ej : j = m
      · subst ej
        refine Int32.toInt_inj.mp ?_
        rw [← q1] at e' k1 k2
        omega
      · exact q2 j (by omega)
theorem wdV_toInt {f : Nat → Int32} {s : Nat} : ∀ m, m ≤ 8 → (∀ j, j < m → ltr (f (s + j))) → (wdV f s m).toInt = (vlN (fun j => f (s + j)) m : Nat) := by
  intro m
  induction m with
  | zero => intro _ _; rfl
  | succ m ih =>
    intro hm hl
    have h1 := ih (by omega) fun j hj => hl j (by omega)
    obtain ⟨l1, l2⟩ := hl m (by omega)
    have lt8 := vlN_lt (f := fun j => f (s + j)) m (fun j hj => hl j (by omega))
    have p8 : 32 ^ m ≤ 32 ^ 8 := Nat.pow_le_pow_right (by decide) (by omega)
    have e : wdV f s (m + 1) = ((wdV f s m * 32) + (f (s + m)).toInt64) - 96 := by
      show (if 8 ≤ m then -1 else _) = _
      rw [if_neg (by omega)]
    have x32 : (f (s + m)).toInt64.toInt = (f (s + m)).toInt := Int32.toInt_toInt64 _
    have c32 : (32 : Int64).toInt = 32 := rfl
    have c96 : (96 : Int64).toInt = 96 := rfl
    have e1 : (wdV f s m * 32).toInt = (vlN (fun j => f (s + j)) m : Int) * 32 := by
      rw [Int64.toInt_mul, h1, c32]
      exact Int.bmod_eq_of_le (by omega) (by omega)
    have e2 : ((wdV f s m * 32) + (f (s + m)).toInt64).toInt = (vlN (fun j => f (s + j)) m : Int) * 32 + (f (s + m)).toInt := by
      rw [Int64.toInt_add, e1, x32]
      exact Int.bmod_eq_of_le (by omega) (by omega)
    rw [e, Int64.toInt_sub, e2, c96, Int.bmod_eq_of_le (by omega) (by omega)]
    show _ = ((vlN (fun j => f (s + j)) m * 32 + ((f (s + m)).toInt.toNat - 96) : Nat) : Int)
    omega
/-- the reference stands at the token from p on -/
def QA (B : Nat) (g : MT) (h : CT) (tp : Nat → Int32) (n p : Nat) : Prop := QT B g h tp n ∧ p ≤ n ∧ hI h (B + 187) 15 = nI (tS tp n p) ∧ hI h (B + 187) 16 = nI (tE tp n p) ∧ hI h (B + 187) 14 = rT tp n p ∧ (rT tp n p = 1 → hL h (B + 187) 18 = wdV tp (tS tp n p) (tE tp n p - tS tp n p)) ∧ (rT tp n p = 2 → hI h (B + 187) 17 = nmV tp (tS tp n p) (tE tp n p - tS tp n p))
theorem rT_1 : rT tp n p = 1 ↔ tS tp n p < n ∧ tK tp n p = 1 := by
  unfold rT
  by_cases c : tS tp n p < n
  · rw [if_pos c]
    by_cases d : tK tp n p = 0
    · rw [if_pos d, d]; exact ⟨fun w => absurd w (by decide), fun w => absurd w.2 (by decide)⟩
    · rw [if_neg d]; exact ⟨fun w => ⟨c, w⟩, fun w => w.2⟩
  · rw [if_neg c]; exact ⟨fun w => absurd w (by decide), fun w => absurd w.1 c⟩
theorem word_ltrs (hk : tK tp n p = 1) (sn : tS tp n p < n) {j : Nat} (hj : j < tE tp n p - tS tp n p) : ltr (tp (tS tp n p + j)) := by
  have hs : pX6_sortOf (tp (tS tp n p)) = 1 := by
    unfold tK at hk
    split at hk
    · exact absurd hk (by decide)
    · exact hk
  by_cases e : j = 0
  · rw [e]; exact ltr_of hs
  · have eE : tE tp n p = rup tp n 1 1000 (tS tp n p + 1) := by
      unfold tE
      rw [if_pos sn, hs, if_pos (Or.inl rfl)]
    exact ltr_of (rup_in tp n 1 1000 (tS tp n p + 1) _ (by omega) (by omega))
theorem m_wrd (A : QA B g h tp n p) {l : List Int32} (l1 : 1 ≤ l.length) (l8 : l.length ≤ 8) (ll : ∀ j, j < l.length → ltr (l.getD j 0)) {w : Int64} (hw : w = wdV (fun j => l.getD j 0) 0 l.length) : pX13_isWord g h (B + 187) w = some (if isT tp n p l then 1 else 0) := by
  obtain ⟨T, hp, e15, e16, e14, e18, e17⟩ := A
  have S := T.1
  have el := tE_le (tp := tp) hp
  unfold pX13_isWord
  rw [w_tg (st_187 S), e14]
  by_cases c : rT tp n p = 1
  · rw [if_pos c, e18 c]
    obtain ⟨sn, hk⟩ := rT_1.mp c
    simp only [lgc_eq, hw]
    have lw : ∀ j, j < tE tp n p - tS tp n p → ltr (tp (tS tp n p + j)) := fun j hj => word_ltrs hk sn hj
    have ll' : ∀ j, j < l.length → ltr ((fun j => l.getD j 0) (0 + j)) := fun j hj => by rw [Nat.zero_add]; exact ll j hj
    have vw := wdV_toInt (f := fun j => l.getD j 0) (s := 0) l.length l8 ll'
    have key : (wdV tp (tS tp n p) (tE tp n p - tS tp n p) = wdV (fun j => l.getD j 0) 0 l.length) = isT tp n p l := by
      apply propext
      constructor
      · intro e
        by_cases m8 : tE tp n p - tS tp n p ≤ 8
        · have v1 := wdV_toInt (f := tp) (s := tS tp n p) _ m8 lw
          rw [e, vw] at v1
          have v2 := vlN_inj (f := fun j => tp (tS tp n p + j)) (f' := fun j => (fun j => l.getD j 0) (0 + j)) _ _ lw ll' (Int.ofNat_inj.mp v1.symm)
          refine ⟨hk, v2.1, fun j hj => ?_⟩
          have := v2.2 j (by omega)
          simp only [Nat.zero_add] at this
          exact this
        · exfalso
          obtain ⟨m, hm⟩ : ∃ m, tE tp n p - tS tp n p = m + 1 := ⟨tE tp n p - tS tp n p - 1, by omega⟩
          have e1 : wdV tp (tS tp n p) (m + 1) = -1 := by
            show (if 8 ≤ m then -1 else _) = _
            rw [if_pos (by omega)]
          rw [hm, e1] at e
          rw [← e] at vw
          have : ((-1 : Int64)).toInt = -1 := rfl
          omega
      · intro t
        obtain ⟨-, t2, t3⟩ := t
        refine Int64.toInt_inj.mp ?_
        rw [vw, wdV_toInt (f := tp) (s := tS tp n p) _ (by omega) lw, t2]
        have : ∀ m, m ≤ l.length → vlN (fun j => tp (tS tp n p + j)) m = vlN (fun j => (fun j => l.getD j 0) (0 + j)) m := by
          intro m
          induction m with
          | zero => intro _; rfl
          | succ m ih =>
            intro hm
            show vlN (fun j => tp (tS tp n p + j)) m * 32 + ((tp (tS tp n p + m)).toInt.toNat - 96) = vlN (fun j => (fun j => l.getD j 0) (0 + j)) m * 32 + ((l.getD (0 + m) 0).toInt.toNat - 96)
            rw [ih (by omega), t3 m (by omega), Nat.zero_add]
        rw [this _ (Nat.le_refl _)]
    simp only [key]
    by_cases d : isT tp n p l
    · rw [if_pos d, if_pos d]
    · rw [if_neg d, if_neg d]
  · rw [if_neg c, if_neg]
    intro t
    refine c (rT_1.mpr ⟨?_, t.1⟩)
    by_cases sn : tS tp n p < n
    · exact sn
    · exfalso
      have eE : tE tp n p = tS tp n p := by unfold tE; rw [if_neg sn]
      have := t.2.1
      omega
end WRD
