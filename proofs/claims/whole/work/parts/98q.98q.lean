/-! one INSTRUCTION more in the class's PROGRAM -/
section APP
variable {B : Nat} {g : MT} {h h' : CT} {pg m o : Nat}
theorem TZ.new (Z : TZ g) (t n : Nat) : TZ (gA g t n) := fun a ha => by
  have h1 : gN (gA g t n) = gN g + 1 := rfl
  rw [gT_gA, if_neg (by omega)]
  exact Z a (by omega)
theorem TZ.lt (Z : TZ g) {a : Nat} (ha : gT g a ≠ 0) : a < gN g := Nat.not_le.mp fun w => ha (Z a w)
/-- the heap behind it -/
def apH (g : MT) (h : CT) (pg m o : Nat) : CT := sI (sR (sR (hZ h (gN g)) (gN g) 0 (some o)) (pg + 1) m (some (gN g))) pg 1 (nI (m + 1))
theorem k_append (Z : TZ g) (t1 : gT g pg = 6) (r0 : hR h pg 0 = some (pg + 1)) (t2 : gT g (pg + 1) = 25) (l2 : gL g (pg + 1) = 30) (e1 : hI h pg 1 = nI m) (hm : m < 30) : pX7_append g h pg o = some (some (gN g), gA g 2 10, apH g h pg m o) := by
  have n1 := Z.lt (a := pg) (by rw [t1]; decide)
  have n2 := Z.lt (a := pg + 1) (by rw [t2]; decide)
  have T1 : gT (gA g 2 10) pg = 6 := by rw [gT_gA, if_neg (by omega)]; exact t1
  have T2 : gT (gA g 2 10) (pg + 1) = 25 := by rw [gT_gA, if_neg (by omega)]; exact t2
  have L2 : gL (gA g 2 10) (pg + 1) = 30 := by rw [gL_gA, if_neg (by omega)]; exact l2
  have T3 : gT (gA g 2 10) (gN g) = 2 := by rw [gT_gA, if_pos rfl]
  have R0 : hR (sR (hZ h (gN g)) (gN g) 0 (some o)) pg 0 = some (pg + 1) := by rw [hR_sR, if_neg (by omega), hR_hZ, if_neg (by omega)]; exact r0
  have E1 : hI (sR (hZ h (gN g)) (gN g) 0 (some o)) pg 1 = nI m := by
    show hI (hZ h (gN g)) pg 1 = nI m
    rw [hI_hZ, if_neg (by omega)]; exact e1
  have le : gN g ≤ gN (gA g 2 10) ∧ gU g ≤ gU (gA g 2 10) := ⟨Nat.le_succ _, Nat.le_add_right _ _⟩
  have ini : pX2_init (gA g 2 10) (hZ h (gN g)) (gN g) o = some (gA g 2 10, sR (hZ h (gN g)) (gN g) 0 (some o)) := by
    unfold pX2_init
    rw [w_tg T3, w_lt]
    exact w_gq (pr := Prod.fst) ⟨Nat.le_refl _, Nat.le_refl _⟩
  have e30 : Int32.ofNat (gL (gA g 2 10) (pg + 1)) = nI 30 := by rw [L2]; rfl
  have E2 : hI (sR (sR (hZ h (gN g)) (gN g) 0 (some o)) (pg + 1) m (some (gN g))) pg 1 = nI m := E1
  have q1 := w_gq (pr := fun z : Option Nat × MT × CT => z.2.1) (g1 := gA g 2 10) (r := (some (gN g), gA g 2 10, apH g h pg m o)) ⟨Nat.le_refl _, Nat.le_refl _⟩
  unfold pX7_append
  rw [w_lt, w_lt, w_lt, w_tg T3, ini, w_bd2, w_tg T1, w_lt, R0, w_nn, w_tg T2, e30, E1, if_neg (nI_ge hm (by decide)), w_lt, w_nn, w_tg T2, L2, w_ix hm (by decide), w_tg T3, nI_clamp (by omega), w_lt, E2, nI_1, w_lt]
  show gq _ g (gq _ (gA g 2 10) (gq _ (gA g 2 10) (some (some (gN g), gA g 2 10, apH g h pg m o)))) = _
  rw [q1, q1]
  exact w_gq (pr := fun z : Option Nat × MT × CT => z.2.1) (g1 := g) (r := (some (gN g), gA g 2 10, apH g h pg m o)) le
end APP
