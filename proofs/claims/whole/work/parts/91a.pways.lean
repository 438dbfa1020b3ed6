/-! what an INSTRUCTION uses and changes: the class's sets, said plainly -/
section WAY
variable {B b L : Nat} {E : EC} {xs : Nat → Int32} {op st bt : Nat → Nat} {aL aS aO : Nat} {g : MT} {h : CT}
theorem op_inj (K : EOK E b L xs op st bt aL aS aO) {j k : Nat} (hj : j < 28) (hk : k < 28) (e : op j = op k) : j = k := by
  have h1 := (K.2.1 j hj).2.1
  have h2 := (K.2.1 k hk).2.1
  rw [e, h2] at h1
  have h3 : nI k = nI j := h1
  have := congrArg Int32.toInt h3
  rw [nI_toInt (by omega), nI_toInt (by omega)] at this
  omega
def wayB (k : Nat) (w x : Int32) : Int32 := if (opD k).2.2.2.2 &&& w = 0 then 0 else x
theorem c_bit (K : EOK E b L xs op st bt aL aS aO) {i k : Nat} (T : gT g i = 2) (r : hR h i 0 = some (op k)) (hk : k < 28) (w x : Int32) : pX2_bit E g h i w x = some (wayB k w x) := by
  unfold pX2_bit pX5_does wayB
  rw [w_tg T, w_lt, r, w_nn, w_tg (K.2.1 k hk).1, w_tg (K.2.1 k hk).1, (K.2.1 k hk).2.2.1]
  by_cases c : (opD k).2.2.2.2 &&& w = 0
  · rw [if_pos c, if_pos c, w_bd, if_pos rfl]
  · rw [if_neg c, if_neg c, w_bd, if_neg (by decide)]
def bitI (x : Int32) : Int32 := (1 : Int32) <<< (x &&& 31)
def usesC (k : Nat) (d a c s m : Int32) : Int32 := (((((((if k = 0 then 0 else 4096) ||| (if m = 0 then 0 else bitI d ||| 1024)) ||| wayB k 1 (bitI d)) ||| wayB k 4 (bitI a)) ||| wayB k 8 (bitI c)) ||| wayB k 256 (bitI (6 + s))) ||| wayB k 16 1024) ||| wayB k 64 2048
def changesC (k : Nat) (d s : Int32) : Int32 := ((((if k = 0 then 4096 else 0) ||| wayB k 2 (bitI d)) ||| wayB k 512 (bitI (6 + s))) ||| wayB k 32 1024) ||| wayB k 128 2048
theorem c_uses (K : EOK E b L xs op st bt aL aS aO) {i k : Nat} (T : gT g i = 2) (r : hR h i 0 = some (op k)) (hk : k < 28) : pX2_uses E g h i = some (usesC k (hI h i 1) (hI h i 2) (hI h i 3) (hI h i 4) (hI h i 8)) := by
  have e5 : E.1 5 = .ref (op 0) := K.1.2.2.2.2.2.1 0 (by decide)
  have go : ∀ s0 : Int32, pX2_uses_b17 E g h i s0 = some (((((((s0 ||| (if hI h i 8 = 0 then 0 else bitI (hI h i 1) ||| 1024)) ||| wayB k 1 (bitI (hI h i 1))) ||| wayB k 4 (bitI (hI h i 2))) ||| wayB k 8 (bitI (hI h i 3))) ||| wayB k 256 (bitI (6 + hI h i 4))) ||| wayB k 16 1024) ||| wayB k 64 2048) := fun s0 => by
    unfold pX2_uses_b17 pX2_uses_b38
    simp only [c_bit K T r hk, w_bd]
    unfold bitI
    by_cases c : hI h i 8 = 0
    · simp only [if_pos c]
    · simp only [if_neg c]
  unfold pX2_uses usesC
  rw [w_tg T, w_lt, e5, w_kR, r]
  by_cases c : k = 0
  · subst c; rw [if_pos rfl, if_pos rfl]; exact go 0
  · rw [if_neg (fun z => c (op_inj K hk (by decide) (Option.some.inj z))), if_neg c]; exact go 4096
theorem c_changes (K : EOK E b L xs op st bt aL aS aO) {i k : Nat} (T : gT g i = 2) (r : hR h i 0 = some (op k)) (hk : k < 28) : pX2_changes E g h i = some (changesC k (hI h i 1) (hI h i 4)) := by
  have e5 : E.1 5 = .ref (op 0) := K.1.2.2.2.2.2.1 0 (by decide)
  have go : ∀ s0 : Int32, pX2_changes_b17 E g h i s0 = some ((((s0 ||| wayB k 2 (bitI (hI h i 1))) ||| wayB k 512 (bitI (6 + hI h i 4))) ||| wayB k 32 1024) ||| wayB k 128 2048) := fun s0 => by
    unfold pX2_changes_b17
    simp only [c_bit K T r hk, w_bd]
    rfl
  unfold pX2_changes changesC
  rw [w_tg T, w_lt, e5, w_kR, r]
  by_cases c : k = 0
  · subst c; rw [if_pos rfl, if_pos rfl]; exact go 4096
  · rw [if_neg (fun z => c (op_inj K hk (by decide) (Option.some.inj z))), if_neg c]; exact go 0
theorem m_at (S : Sh B g) (p2 : PtR B (hR h)) {i f : Nat} (hi : i ≤ 170) (hf : f < 8) : pX13_at g h (B + 187) (nI i) (nI f) = some (hI h (B + 192) (6 + 8 * i + f)) := by
  unfold pX13_at
  rw [w_tg (st_187 S), w_lt, pr_187_19 p2, w_nn, w_tg (st_192 S), sl_192 S, show (6 + 8 * nI i + nI f : Int32) = nI (6 + 8 * i + f) from by rw [show (8 : Int32) = nI 8 from rfl, pk_mul, show (6 : Int32) = nI 6 from rfl, nI_add, nI_add], w_ix (show 6 + 8 * i + f < 1476 by omega) (by decide), nI_clamp (by omega)]
end WAY
