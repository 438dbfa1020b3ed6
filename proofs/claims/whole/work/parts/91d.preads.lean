/-! the reference's readSet -/
section RDS
variable {B : Nat} {g : MT} {h : CT}
theorem m_reads (S : Sh B g) (p2 : PtR B (hR h)) {i k : Nat} (hi : i ≤ 170) (hk : k < 27) {d a c s : Int32} {m : Bool} (e0 : hI h (B + 192) (6 + 8 * i + 0) = nI k) (e1 : hI h (B + 192) (6 + 8 * i + 1) = d) (e2 : hI h (B + 192) (6 + 8 * i + 2) = a) (e3 : hI h (B + 192) (6 + 8 * i + 3) = c) (e5 : k = 2 → hI h (B + 192) (6 + 8 * i + 5) = s) (e6 : hI h (B + 192) (6 + 8 * i + 6) = if m then 1 else 0) :
    pX13_readSet g h (B + 187) (nI i) = some (readsR k d a c s m) := by
  have a0 : pX13_at g h (B + 187) (nI i) 0 = some (nI k) := by rw [← e0]; exact m_at S p2 hi (f := 0) (by decide)
  have a1 : pX13_at g h (B + 187) (nI i) 1 = some d := by rw [← e1]; exact m_at S p2 hi (f := 1) (by decide)
  have a2 : pX13_at g h (B + 187) (nI i) 2 = some a := by rw [← e2]; exact m_at S p2 hi (f := 2) (by decide)
  have a3 : pX13_at g h (B + 187) (nI i) 3 = some c := by rw [← e3]; exact m_at S p2 hi (f := 3) (by decide)
  have a6 : pX13_at g h (B + 187) (nI i) 6 = some (if m then 1 else 0) := by rw [← e6]; exact m_at S p2 hi (f := 6) (by decide)
  have q : ∀ j, j < 2 ^ 31 → (nI k = nI j) = (k = j) := fun j hj => propext (nI_eq (by omega) hj)
  have q0 : (nI k = 0) = (k = 0) := q 0 (by decide)
  have q2 : (nI k = 2) = (k = 2) := q 2 (by decide)
  have q3 : (nI k = 3) = (k = 3) := q 3 (by decide)
  have q5 : (nI k = 5) = (k = 5) := q 5 (by decide)
  have q20 : (nI k = 20) = (k = 20) := q 20 (by decide)
  have q21 : (nI k = 21) = (k = 21) := q 21 (by decide)
  have q22 : (nI k = 22) = (k = 22) := q 22 (by decide)
  have m1 : ((if m then (1 : Int32) else 0) = 1) = (m = true) := by cases m <;> decide
  have b138 : ∀ l, pX13_readSet_b138 g h (B + 187) (nI i) (nI k) l = some (if k = 3 ∨ k = 5 then l ||| 2048 else l) := fun l => by
    unfold pX13_readSet_b138 pX13_readSet_b148
    simp only [q3, q5]
    by_cases c3 : k = 3
    · rw [if_pos c3, if_pos (Or.inl c3), w_lt]
    · by_cases c5 : k = 5
      · rw [if_neg c3, if_pos c5, if_pos (Or.inr c5), w_lt]
      · rw [if_neg c3, if_neg c5, if_neg (fun z => z.elim c3 c5)]
  have b103 : ∀ l, pX13_readSet_b103 g h (B + 187) (nI i) (nI k) l = pX13_readSet_b138 g h (B + 187) (nI i) (nI k) (if m = true ∨ k = 20 ∨ k = 21 ∨ k = 22 then l ||| 1024 else l) := fun l => by
    unfold pX13_readSet_b103 pX13_readSet_b132
    simp only [a6, w_bd, m1, q20, q21, q22, w_lt]
    by_cases c1 : m = true
    · rw [if_pos c1, if_pos (Or.inl c1)]
    · by_cases c2 : k = 20
      · rw [if_neg c1, if_pos c2, if_pos (Or.inr (Or.inl c2))]
      · by_cases c3 : k = 21
        · rw [if_neg c1, if_neg c2, if_pos c3, if_pos (Or.inr (Or.inr (Or.inl c3)))]
        · by_cases c4 : k = 22
          · rw [if_neg c1, if_neg c2, if_neg c3, if_pos c4, if_pos (Or.inr (Or.inr (Or.inr c4)))]
          · rw [if_neg c1, if_neg c2, if_neg c3, if_neg c4, if_neg (fun z => z.elim c1 fun z => z.elim c2 fun z => z.elim c3 c4)]
  have b84 : ∀ l, pX13_readSet_b84 g h (B + 187) (nI i) (nI k) l = pX13_readSet_b103 g h (B + 187) (nI i) (nI k) (if k = 2 then l ||| bitI (6 + s) else l) := fun l => by
    unfold pX13_readSet_b84 bitI
    simp only [q2]
    by_cases c2 : k = 2
    · have a5 : pX13_at g h (B + 187) (nI i) 5 = some s := by rw [← e5 c2]; exact m_at S p2 hi (f := 5) (by decide)
      rw [if_pos c2, if_pos c2, a5, w_bd, w_lt]
    · rw [if_neg c2, if_neg c2]
  have b55 : ∀ l, pX13_readSet_b55 g h (B + 187) (nI i) (nI k) l = pX13_readSet_b84 g h (B + 187) (nI i) (nI k) (if pX13_readsD (nI k) = 0 ∧ m = false then l else l ||| bitI d) := fun l => by
    unfold pX13_readSet_b55 pX13_readSet_b73
    simp only [a1, w_bd, w_lt, a6, m1]
    by_cases c1 : pX13_readsD (nI k) = 0
    · rw [if_pos c1]
      cases m
      · rw [if_neg (by decide), if_pos ⟨c1, rfl⟩]
      · rw [if_pos rfl, if_neg (fun z => by cases z.2)]; rfl
    · rw [if_neg c1, if_neg (fun z => c1 z.1)]; rfl
  have b37 : ∀ l, pX13_readSet_b37 g h (B + 187) (nI i) (nI k) l = pX13_readSet_b55 g h (B + 187) (nI i) (nI k) (if pX13_readsB (nI k) = 0 then l else l ||| bitI c) := fun l => by
    unfold pX13_readSet_b37 bitI
    by_cases c1 : pX13_readsB (nI k) = 0
    · rw [if_pos c1, if_pos c1]
    · rw [if_neg c1, if_neg c1, a3, w_bd, w_lt]
  have b18 : ∀ l, pX13_readSet_b18 g h (B + 187) (nI i) (nI k) l = pX13_readSet_b37 g h (B + 187) (nI i) (nI k) (if pX13_readsA (nI k) = 0 then l else l ||| bitI a) := fun l => by
    unfold pX13_readSet_b18 bitI
    by_cases c1 : pX13_readsA (nI k) = 0
    · rw [if_pos c1, if_pos c1]
    · rw [if_neg c1, if_neg c1, a2, w_bd, w_lt]
  unfold pX13_readSet
  simp only [w_tg (st_187 S), a0, w_bd, q0]
  by_cases c0 : k = 0
  · rw [if_pos c0, b18, b37, b55, b84, b103, b138]
    unfold readsR
    rw [if_pos c0]
  · rw [if_neg c0, b18, b37, b55, b84, b103, b138]
    unfold readsR
    rw [if_neg c0]
end RDS
