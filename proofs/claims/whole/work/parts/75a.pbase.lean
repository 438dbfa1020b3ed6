/-! THE PURE PART: the plain functions' words, views of a plain heap -/
def ud {α : Type} (f : Nat → α) (k : Nat) (x : α) : Nat → α := fun j => if j = k then x else f j
theorem ud_s {α : Type} (f : Nat → α) (k : Nat) (x : α) : ud f k x k = x := if_pos rfl
theorem ud_n {α : Type} {f : Nat → α} {j k : Nat} {x : α} (h : j ≠ k) : ud f k x j = f j := if_neg h
theorem ud_eq {α : Type} {f g : Nat → α} (h : f = g) (k : Nat) (x : α) : ud f k x = ud g k x := by rw [h]
section PV
variable (h : CT) (a k b : Nat)
theorem hI_sI (x : Int32) : hI (sI h a k x) b = if b = a then ud (hI h a) k x else hI h b := by
  funext j
  by_cases e : b = a
  · subst e; simp [hI, sI, up2, ud]
  · simp [hI, sI, up2, e]
theorem hL_sL (x : Int64) : hL (sL h a k x) b = if b = a then ud (hL h a) k x else hL h b := by
  funext j
  by_cases e : b = a
  · subst e; simp [hL, sL, up2, ud]
  · simp [hL, sL, up2, e]
theorem hD_sD (x : UInt64) : hD (sD h a k x) b = if b = a then ud (hD h a) k x else hD h b := by
  funext j
  by_cases e : b = a
  · subst e; simp [hD, sD, up2, ud]
  · simp [hD, sD, up2, e]
theorem hR_sR (x : Option Nat) : hR (sR h a k x) b = if b = a then ud (hR h a) k x else hR h b := by
  funext j
  by_cases e : b = a
  · subst e; simp [hR, sR, up2, ud]
  · simp [hR, sR, up2, e]
theorem hI_sL (x : Int64) : hI (sL h a k x) = hI h := rfl
theorem hI_sD (x : UInt64) : hI (sD h a k x) = hI h := rfl
theorem hI_sR (x : Option Nat) : hI (sR h a k x) = hI h := rfl
theorem hL_sI (x : Int32) : hL (sI h a k x) = hL h := rfl
theorem hL_sD (x : UInt64) : hL (sD h a k x) = hL h := rfl
theorem hL_sR (x : Option Nat) : hL (sR h a k x) = hL h := rfl
theorem hD_sI (x : Int32) : hD (sI h a k x) = hD h := rfl
theorem hD_sL (x : Int64) : hD (sL h a k x) = hD h := rfl
theorem hD_sR (x : Option Nat) : hD (sR h a k x) = hD h := rfl
theorem hR_sI (x : Int32) : hR (sI h a k x) = hR h := rfl
theorem hR_sL (x : Int64) : hR (sL h a k x) = hR h := rfl
theorem hR_sD (x : UInt64) : hR (sD h a k x) = hR h := rfl
theorem hL_cpL (a0 sp dp n : Nat) : hL (cpL h a0 a sp dp n) b = if b = a then va_cpy (hL h a0) (hL h a) sp dp n else hL h b := by
  funext j
  by_cases e : b = a
  · subst e; simp [hL, cpL]
  · simp [hL, cpL, e]
theorem hD_cpD (a0 sp dp n : Nat) : hD (cpD h a0 a sp dp n) b = if b = a then va_cpy (hD h a0) (hD h a) sp dp n else hD h b := by
  funext j
  by_cases e : b = a
  · subst e; simp [hD, cpD]
  · simp [hD, cpD, e]
theorem hI_cpL (a0 sp dp n : Nat) : hI (cpL h a0 a sp dp n) = hI h := rfl
theorem hD_cpL (a0 sp dp n : Nat) : hD (cpL h a0 a sp dp n) = hD h := rfl
theorem hR_cpL (a0 sp dp n : Nat) : hR (cpL h a0 a sp dp n) = hR h := rfl
theorem hI_cpD (a0 sp dp n : Nat) : hI (cpD h a0 a sp dp n) = hI h := rfl
theorem hL_cpD (a0 sp dp n : Nat) : hL (cpD h a0 a sp dp n) = hL h := rfl
theorem hR_cpD (a0 sp dp n : Nat) : hR (cpD h a0 a sp dp n) = hR h := rfl
theorem hI_hZ : hI (hZ h a) b = if b = a then (fun _ => 0) else hI h b := rfl
theorem hL_hZ : hL (hZ h a) b = if b = a then (fun _ => 0) else hL h b := rfl
theorem hD_hZ : hD (hZ h a) b = if b = a then (fun _ => 0) else hD h b := rfl
theorem hR_hZ : hR (hZ h a) b = if b = a then (fun _ => none) else hR h b := rfl
end PV
section PG
variable (g : MT) (t n b : Nat)
theorem gT_gA : gT (gA g t n) b = if b = gN g then t else gT g b := rfl
theorem gL_gA : gL (gA g t n) b = if b = gN g then n else gL g b := rfl
theorem gN_gA : gN (gA g t n) = gN g + 1 := rfl
theorem gU_gA : gU (gA g t n) = gU g + n := rfl
end PG
section PW
variable {α β γ δ : Type}
theorem w_tg {g : MT} {a t : Nat} (h : gT g a = t) (k : Option α) : tg g a t k = k := if_pos h
theorem w_nn (a : Nat) (k : Nat → Option α) : nn (some a) k = k a := rfl
theorem w_lt (e : α) (k : α → β) : lt e k = k e := rfl
theorem w_bd (a : α) (k : α → Option β) : bd (some a) k = k a := rfl
theorem w_bd2 (a : α) (b : β) (k : α → β → Option γ) : bd2 (some (a, b)) k = k a b := rfl
theorem w_bd3 (a : α) (b : β) (c : γ) (k : α → β → γ → Option δ) : bd3 (some (a, b, c)) k = k a b c := rfl
theorem w_kR (a : Nat) (k : Nat → Option α) : kR (.ref a) k = k a := rfl
theorem w_kI (a : Int32) (k : Int32 → Option α) : kI (.int a) k = k a := rfl
theorem w_kQ (r : Option Nat) (k : Option Nat → Option α) : kQ (va_rf r) k = k r := by cases r <;> rfl
theorem w_ix {n i : Nat} (h : i < n) (hn : n < 2 ^ 31) (k : Option α) : ix n (nI i) k = k := by
  unfold ix
  rw [if_pos]
  rw [nI_toInt (Nat.lt_trans h hn)]
  exact ⟨Int.natCast_nonneg i, Int.ofNat_lt.mpr h⟩
theorem w_bz0 (k : Option α) : bz 0 k = k := rfl
theorem w_bz1 (k : Option α) : bz 1 k = k := rfl
theorem w_bz {x : Int32} (h : is01 x) (k : Option α) : bz x k = k := if_pos h
theorem w_gq {pr : α → MT} {g1 : MT} {r : α} (h : gN g1 ≤ gN (pr r) ∧ gU g1 ≤ gU (pr r)) : gq pr g1 (some r) = some r := if_pos h
theorem w_na {n : Nat} (h : n ≤ 4096) (k : Option α) : na (nI n) k = k := by
  unfold na
  rw [if_pos]
  exact ⟨nI_pos (by omega), by rw [nI_clamp (by omega)]; exact h⟩
theorem w_dvI {y : Int32} (h : ¬ y = 0) (k : Option α) : dvI y k = k := if_neg h
theorem w_dvL {y : Int64} (h : ¬ y = 0) (k : Option α) : dvL y k = k := if_neg h
end PW
theorem nar_bool {x : Int32} (h : is01 x) : vp_nar .boolean x = x := by rcases h with rfl | rfl <;> decide
theorem is01_0 : is01 0 := Or.inl rfl
theorem is01_1 : is01 1 := Or.inr rfl
theorem is01_ne {x : Int32} (h : is01 x) (h0 : ¬ x = 0) : x = 1 := h.resolve_left h0
theorem nI_lit (n : Nat) : (OfNat.ofNat n : Int32) = nI n := rfl
theorem nI_div2 {n : Nat} (h : n < 2 ^ 31) : nI n / 2 = nI (n / 2) := pk_div h (by decide) (by decide)
