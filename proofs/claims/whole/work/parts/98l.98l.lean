/-! the class's turn: one token behind the word of an INSTRUCTION -/
section ITM
variable {B b L : Nat} {E : EC} {xs : Nat → Int32} {op st bt : Nat → Nat} {aL aS aO : Nat} {g g8 : MT} {h h' h1 h2 h9 : CT} {tp : Nat → Int32} {n p : Nat}
/-- what a token is good for where the form wants c: the fault, and what is set where -/
def itF (tp : Nat → Int32) (n p : Nat) (c : Int32) : Int32 :=
  if c = 42 then (if isT tp n p (stB 3) then 0 else 2) else if c = 59 then (if tK tp n p = 3 then 0 else 2) else if c = 64 then (if isT tp n p (stB 2) then 0 else 2)
  else if c = 97 ∨ c = 98 ∨ c = 100 then (if ltV tp n p 118 6 = -1 then 2 else 0) else if c = 102 then (if isT tp n p (stB 4) then 0 else 2)
  else if c = 115 then (if ltV tp n p 115 4 = -1 then 2 else 0) else if tK tp n p = 2 then (if nmV tp (tS tp n p) (tE tp n p - tS tp n p) ≤ pX6_mostFor c then 0 else 4) else 2
def itK (c : Int32) : Nat := if c = 100 then 1 else if c = 97 then 2 else if c = 98 then 3 else if c = 115 then 4 else if c = 112 then 5 else if c = 121 then 6 else 7
def itV (tp : Nat → Int32) (n p : Nat) (c : Int32) : Int32 := if c = 97 ∨ c = 98 ∨ c = 100 then ltV tp n p 118 6 else if c = 115 then ltV tp n p 115 4 else nmV tp (tS tp n p) (tE tp n p - tS tp n p)
/-- what it sets -/
def itH (tp : Nat → Int32) (n p : Nat) (c : Int32) (ci : Nat) (h : CT) : CT := if c = 42 ∨ c = 59 ∨ c = 64 ∨ c = 102 then h else if itF tp n p c = 0 then sI h ci (itK c) (itV tp n p c) else h
theorem KA.s (A : KA B g h tp n p) {k : Nat} {v : Int32} (hk : k = 10 ∨ k = 0 ∨ k = 1) : KA B g (sI h (B + 11) k v) tp n p := by
  obtain ⟨⟨t1, t2, t3, t4, t5, t6, n900⟩, hp, sn, e4, e5, e6⟩ := A
  have f : ∀ j, j ≠ k → hI (sI h (B + 11) k v) (B + 11) j = hI h (B + 11) j := fun j hj => by rw [hI_sI, if_pos rfl, ud_n hj]
  exact ⟨⟨t1, t2, t3, t4, by rw [hI_sI, if_neg (by omega)]; exact t5, by rw [f 3 (by omega)]; exact t6, n900⟩, hp, sn, by rw [f 4 (by omega)]; exact e4, by rw [f 5 (by omega)]; exact e5, by rw [f 6 (by omega)]; exact e6⟩
theorem e_x (K : EOK E b L xs op st bt aL aS aO) (i : Nat) (hi : i < 5) : E.1 (50 + i) = .ref (st i) := K.1.2.2.2.2.2.2.2 i hi
theorem k_name (A : KA B g h tp n p) {ci : Nat} (e8 : hR h (B + 11) 8 = some ci) (tc : gT g ci = 2) {c : Int32} (hc : c = 97 ∨ c = 98 ∨ c = 100 ∨ c = 115) : pX6_followName g h (B + 11) c = some (itF tp n p c, itH tp n p c ci h) := by
  have b24 : ∀ v, pX6_followName_b24 g (B + 11) c v h = if v = -1 then some (2, h) else some (0, sI h ci (itK c) v) := fun v => by
    unfold pX6_followName_b24
    by_cases e : v = -1
    · rw [if_pos e, if_pos e]
    · rw [if_neg e, if_neg e, w_lt, e8, if_neg (show ¬ some ci = none from fun w => by cases w), w_lt, w_nn, w_tg tc, w_lt, w_lt, w_nn, w_tg tc, w_lt, w_lt, w_nn, w_tg tc, w_lt, w_lt, w_nn, w_tg tc, w_lt]
      rcases hc with rfl | rfl | rfl | rfl <;> rfl
  unfold pX6_followName
  rw [w_tg A.1.1, show (4 : Int32) = nI 4 from rfl, show (6 : Int32) = nI 6 from rfl, k_let A, k_let A, w_bd, w_bd, b24, b24]
  unfold itF itH itV
  rcases hc with rfl | rfl | rfl | rfl
  · by_cases e : ltV tp n p 118 6 = -1 <;> simp [e, itF]
  · by_cases e : ltV tp n p 118 6 = -1 <;> simp [e, itF]
  · by_cases e : ltV tp n p 118 6 = -1 <;> simp [e, itF]
  · by_cases e : ltV tp n p 115 4 = -1 <;> simp [e, itF]
theorem k_numb (A : KA B g h tp n p) {ci : Nat} (e8 : hR h (B + 11) 8 = some ci) (tc : gT g ci = 2) {c : Int32} (hc : c = 112 ∨ c = 121 ∨ c = 110 ∨ c = 118) : pX6_followNumber g h (B + 11) c = some (itF tp n p c, itH tp n p c ci h) := by
  have nn' : ¬ (c = 42) ∧ ¬ (c = 59) ∧ ¬ (c = 64) ∧ ¬ (c = 97 ∨ c = 98 ∨ c = 100) ∧ ¬ (c = 102) ∧ ¬ (c = 115) := by rcases hc with rfl | rfl | rfl | rfl <;> decide
  obtain ⟨z1, z2, z3, z4, z5, z6⟩ := nn'
  have eF : itF tp n p c = if tK tp n p = 2 then (if nmV tp (tS tp n p) (tE tp n p - tS tp n p) ≤ pX6_mostFor c then 0 else 4) else 2 := by
    unfold itF
    rw [if_neg z1, if_neg z2, if_neg z3, if_neg z4, if_neg z5, if_neg z6]
  have eV : itV tp n p c = nmV tp (tS tp n p) (tE tp n p - tS tp n p) := by
    unfold itV
    rw [if_neg z4, if_neg z6]
  have eH : itH tp n p c ci h = if itF tp n p c = 0 then sI h ci (itK c) (itV tp n p c) else h := by
    unfold itH
    rw [if_neg (by rintro (w | w | w | w); exact z1 w; exact z2 w; exact z3 w; exact z5 w)]
  rw [eH, eV, eF]
  have A' := A
  obtain ⟨T, hp, sn, e4, e5, e6⟩ := A'
  unfold pX6_followNumber
  rw [w_tg T.1, e6]
  by_cases k : tK tp n p = 2
  · obtain ⟨v, v1, v2, v3⟩ := k_num A k c
    rw [if_pos k, w_lt, e8, if_neg (by simp), w_lt, e4, v3 FUEL (by decide), if_pos k, v2]
    unfold pX6_followNumber_b24
    have n900 := T.2.2.2.2.2.2
    rw [e5, if_pos (nI_le (Nat.le_refl _) (by have := (tE_le (tp := tp) hp).2.1; omega))]
    by_cases m : nI v ≤ pX6_mostFor c
    · rw [if_pos m, if_pos m, if_pos rfl, w_lt, e8, w_nn, w_tg tc, w_lt, w_lt, w_nn, w_tg tc, w_lt, w_lt, w_nn, w_tg tc, w_lt]
      rcases hc with rfl | rfl | rfl | rfl <;> rfl
    · rw [if_neg m, if_neg m, if_neg (by decide)]
  · rw [if_neg k, if_neg k, if_neg (by decide)]
/-- what the form wants next, but for m -/
theorem k_b95 (K : EOK E b L xs op st bt aL aS aO) (A : KA B g h tp n p) {ci : Nat} (e8 : hR h (B + 11) 8 = some ci) (tc : gT g ci = 2) {c : Int32} (hc : c = 42 ∨ c = 59 ∨ c = 64 ∨ c = 102 ∨ c = 97 ∨ c = 98 ∨ c = 100 ∨ c = 115 ∨ c = 112 ∨ c = 121 ∨ c = 110 ∨ c = 118) : pX6_follow_b95 E g (B + 11) c h = some (itF tp n p c, itH tp n p c ci h) := by
  have x2 := e_x K 2 (by decide)
  have x3 := e_x K 3 (by decide)
  have x4 := e_x K 4 (by decide)
  have e6 := A.2.2.2.2.2
  unfold pX6_follow_b95
  rcases hc with rfl | rfl | rfl | rfl | rfl | rfl | rfl | rfl | rfl | rfl | rfl | rfl
  · rw [if_pos rfl, x3, w_kR, k_txt K A (by decide), w_bd2]
    unfold itF itH
    by_cases t : isT tp n p (stB 3)
    · rw [if_pos t, if_pos t]; rfl
    · rw [if_neg t, if_neg t]; rfl
  · rw [if_neg (by decide), if_pos rfl, e6]
    unfold itF itH
    by_cases t : tK tp n p = 3
    · simp [t]
    · simp [t]
  · rw [if_neg (by decide), if_neg (by decide), if_pos rfl, x2, w_kR, k_txt K A (by decide), w_bd2]
    unfold itF itH
    by_cases t : isT tp n p (stB 2)
    · rw [if_pos t, if_pos t]; rfl
    · rw [if_neg t, if_neg t]; rfl
  · rw [if_neg (by decide), if_neg (by decide), if_neg (by decide), if_neg (by decide), if_neg (by decide), if_neg (by decide), if_pos rfl, x4, w_kR, k_txt K A (by decide), w_bd2]
    unfold itF itH
    by_cases t : isT tp n p (stB 4)
    · rw [if_pos t, if_pos t]; rfl
    · rw [if_neg t, if_neg t]; rfl
  · rw [if_neg (by decide), if_neg (by decide), if_neg (by decide), if_pos rfl, k_name A e8 tc (by decide), w_bd2]
  · rw [if_neg (by decide), if_neg (by decide), if_neg (by decide), if_neg (by decide), if_pos rfl, k_name A e8 tc (by decide), w_bd2]
  · rw [if_neg (by decide), if_neg (by decide), if_neg (by decide), if_neg (by decide), if_neg (by decide), if_pos rfl, k_name A e8 tc (by decide), w_bd2]
  · rw [if_neg (by decide), if_neg (by decide), if_neg (by decide), if_neg (by decide), if_neg (by decide), if_neg (by decide), if_neg (by decide), if_pos rfl, k_name A e8 tc (by decide), w_bd2]
  · rw [if_neg (by decide), if_neg (by decide), if_neg (by decide), if_neg (by decide), if_neg (by decide), if_neg (by decide), if_neg (by decide), if_neg (by decide), k_numb A e8 tc (by decide), w_bd2]
  · rw [if_neg (by decide), if_neg (by decide), if_neg (by decide), if_neg (by decide), if_neg (by decide), if_neg (by decide), if_neg (by decide), if_neg (by decide), k_numb A e8 tc (by decide), w_bd2]
  · rw [if_neg (by decide), if_neg (by decide), if_neg (by decide), if_neg (by decide), if_neg (by decide), if_neg (by decide), if_neg (by decide), if_neg (by decide), k_numb A e8 tc (by decide), w_bd2]
  · rw [if_neg (by decide), if_neg (by decide), if_neg (by decide), if_neg (by decide), if_neg (by decide), if_neg (by decide), if_neg (by decide), if_neg (by decide), k_numb A e8 tc (by decide), w_bd2]
end ITM
