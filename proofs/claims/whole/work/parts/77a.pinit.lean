/-! THE CONSTRUCTORS: all cells behind B, told by lists: tags and lengths; ints, doubles, pointers (to places behind B, to others) that are not as a new cell has them -/
def lk {α : Type} (d : α) : List (Nat × Nat × α) → Nat → Nat → α
  | [], _, _ => d
  | (o, k, x) :: L, o', k' => if o' = o ∧ k' = k then x else lk d L o' k'
def lkP (B : Nat) (P : List (Nat × Nat × Nat)) (A : List (Nat × Nat × Nat)) (o k : Nat) : Option Nat :=
  match lk none (P.map fun q => (q.1, q.2.1, some q.2.2)) o k with
  | some t => some (B + t)
  | none => lk none (A.map fun q => (q.1, q.2.1, some q.2.2)) o k
def Dsc (B : Nat) (T : List (Nat × Nat)) (I : List (Nat × Nat × Int32)) (Q : List (Nat × Nat × UInt64)) (P A : List (Nat × Nat × Nat)) (g : MT) (h : CT) : Prop :=
  gN g = B + T.length ∧ gU g = (T.map Prod.snd).sum ∧ (∀ i q, T[i]? = some q → gT g (B + i) = q.1 ∧ gL g (B + i) = q.2)
  ∧ (∀ o, o < T.length → ∀ k, hI h (B + o) k = lk 0 I o k ∧ hL h (B + o) k = 0 ∧ hD h (B + o) k = lk 0 Q o k ∧ hR h (B + o) k = lkP B P A o k)
  ∧ ∀ a, (a < B ∨ B + T.length ≤ a) → ∀ k, hR h a k = none ∧ gT g a = 0
/-- all entries are of places that are there -/
def Inn {α : Type} (n : Nat) (L : List (Nat × Nat × α)) : Prop := ∀ q ∈ L, q.1 < n
theorem lk_none {α : Type} {d : α} : ∀ {L : List (Nat × Nat × α)} {n o k : Nat}, Inn n L → n ≤ o → lk d L o k = d
  | [], _, _, _, _, _ => rfl
  | (a, b, x) :: L, n, o, k, h, ho => by
    have := h (a, b, x) List.mem_cons_self
    simp only at this
    rw [lk, if_neg (fun z => by omega)]
    exact lk_none (fun q hq => h q (List.mem_cons_of_mem _ hq)) ho
theorem Inn.map {α β : Type} {n : Nat} {L : List (Nat × Nat × α)} (h : Inn n L) (f : α → β) : Inn n (L.map fun q => (q.1, q.2.1, f q.2.2)) := fun q hq => by
  obtain ⟨x, hx, rfl⟩ := List.mem_map.mp hq
  exact h x hx
section DSC
variable {B : Nat} {T : List (Nat × Nat)} {I : List (Nat × Nat × Int32)} {Q : List (Nat × Nat × UInt64)} {P A : List (Nat × Nat × Nat)} {g : MT} {h : CT} {t n o k u : Nat}
/-- entries in range, too -/
def DI (B : Nat) (T : List (Nat × Nat)) (I : List (Nat × Nat × Int32)) (Q : List (Nat × Nat × UInt64)) (P A : List (Nat × Nat × Nat)) (g : MT) (h : CT) : Prop :=
  Dsc B T I Q P A g h ∧ Inn T.length I ∧ Inn T.length Q ∧ Inn T.length P ∧ Inn T.length A
theorem Inn.up {α : Type} {n m : Nat} {L : List (Nat × Nat × α)} (h : Inn n L) (hm : n ≤ m) : Inn m L := fun q hq => Nat.lt_of_lt_of_le (h q hq) hm
theorem Inn.cons {α : Type} {n o k : Nat} {x : α} {L : List (Nat × Nat × α)} (h : Inn n L) (ho : o < n) : Inn n ((o, k, x) :: L) := fun q hq => by
  rcases List.mem_cons.mp hq with rfl | hq
  · exact ho
  · exact h q hq
theorem DI.N (H : DI B T I Q P A g h) : gN g = B + T.length := H.1.1
theorem DI.U (H : DI B T I Q P A g h) : gU g = (T.map Prod.snd).sum := H.1.2.1
theorem DI.tag (H : DI B T I Q P A g h) {q : Nat × Nat} (ho : T[o]? = some q) : gT g (B + o) = q.1 := (H.1.2.2.1 o q ho).1
theorem DI.len (H : DI B T I Q P A g h) {q : Nat × Nat} (ho : T[o]? = some q) : gL g (B + o) = q.2 := (H.1.2.2.1 o q ho).2
theorem DI.ptr (H : DI B T I Q P A g h) (ho : o < T.length) : hR h (B + o) k = lkP B P A o k := (H.1.2.2.2.1 o ho k).2.2.2
theorem DI.new (H : DI B T I Q P A g h) (m : Nat) (hm : gN g = m) : DI B (T ++ [(t, n)]) I Q P A (gA g t n) (hZ h m) := by
  obtain ⟨⟨h1, h2, h3, h4, h5⟩, i1, i2, i3, i4⟩ := H
  subst hm
  have hl : (T ++ [(t, n)]).length = T.length + 1 := by simp
  refine ⟨⟨?_, ?_, fun i q hi => ?_, fun o ho k => ?_, fun a ha k => ?_⟩, ?_, ?_, ?_, ?_⟩
  · rw [gN_gA, hl, h1]; omega
  · rw [gU_gA, h2]; simp
  · by_cases e : i = T.length
    · subst e
      rw [List.getElem?_append_right (Nat.le_refl _), Nat.sub_self] at hi
      cases hi
      rw [gT_gA, gL_gA, h1, if_pos rfl, if_pos rfl]
      exact ⟨rfl, rfl⟩
    · have hlt : i < T.length := by
        have := (List.getElem?_eq_some_iff.mp hi).1
        omega
      rw [List.getElem?_append_left hlt] at hi
      rw [gT_gA, gL_gA, h1, if_neg (by omega), if_neg (by omega)]
      exact h3 i q hi
  · rw [hI_hZ, hL_hZ, hD_hZ, hR_hZ, h1]
    by_cases e : o = T.length
    · subst e
      rw [if_pos rfl, if_pos rfl, if_pos rfl, if_pos rfl, lk_none i1 (Nat.le_refl _), lk_none i2 (Nat.le_refl _)]
      refine ⟨rfl, rfl, rfl, ?_⟩
      unfold lkP
      rw [lk_none (i3.map some) (Nat.le_refl _), lk_none (i4.map some) (Nat.le_refl _)]
    · rw [if_neg (by omega), if_neg (by omega), if_neg (by omega), if_neg (by omega)]
      exact h4 o (by omega) k
  · have ne : a ≠ gN g := by rw [h1]; omega
    rw [hR_hZ, gT_gA, if_neg ne, if_neg ne]
    exact h5 a (by omega) k
  · exact i1.up (by omega)
  · exact i2.up (by omega)
  · exact i3.up (by omega)
  · exact i4.up (by omega)
theorem DI.aR (H : DI B T I Q P A g h) (ho : o < T.length) (u : Nat) : DI B T I Q ((o, k, u) :: P) A g (sR h (B + o) k (some (B + u))) := by
  obtain ⟨⟨h1, h2, h3, h4, h5⟩, i1, i2, i3, i4⟩ := H
  refine ⟨⟨h1, h2, h3, fun o' ho' k' => ?_, fun a ha k => ?_⟩, i1, i2, i3.cons ho, i4⟩
  · obtain ⟨a1, a2, a3, a4⟩ := h4 o' ho' k'
    refine ⟨a1, a2, a3, ?_⟩
    rw [hR_sR]
    unfold lkP
    rw [List.map_cons, lk]
    by_cases e : o' = o ∧ k' = k
    · obtain ⟨rfl, rfl⟩ := e
      rw [if_pos rfl, ud_s, if_pos ⟨rfl, rfl⟩]
    · rw [if_neg e]
      by_cases e2 : B + o' = B + o
      · rw [if_pos e2, ud_n (fun z => e ⟨by omega, z⟩), ← e2]; exact a4
      · rw [if_neg e2]; exact a4
  · rw [hR_sR, if_neg (by omega)]; exact h5 a ha k
theorem DI.aRa (H : DI B T I Q P A g h) (ho : o < T.length) (hp : lk none (P.map fun q => (q.1, q.2.1, some q.2.2)) o k = none) (u : Nat) : DI B T I Q P ((o, k, u) :: A) g (sR h (B + o) k (some u)) := by
  obtain ⟨⟨h1, h2, h3, h4, h5⟩, i1, i2, i3, i4⟩ := H
  refine ⟨⟨h1, h2, h3, fun o' ho' k' => ?_, fun a ha k => ?_⟩, i1, i2, i3, i4.cons ho⟩
  · obtain ⟨a1, a2, a3, a4⟩ := h4 o' ho' k'
    refine ⟨a1, a2, a3, ?_⟩
    rw [hR_sR]
    unfold lkP at a4 ⊢
    by_cases e : o' = o ∧ k' = k
    · obtain ⟨rfl, rfl⟩ := e
      rw [if_pos rfl, ud_s, hp, List.map_cons, lk, if_pos ⟨rfl, rfl⟩]
    · rw [List.map_cons, lk, if_neg e]
      by_cases e2 : B + o' = B + o
      · rw [if_pos e2, ud_n (fun z => e ⟨by omega, z⟩), ← e2]; exact a4
      · rw [if_neg e2]; exact a4
  · rw [hR_sR, if_neg (by omega)]; exact h5 a ha k
theorem DI.aI (H : DI B T I Q P A g h) (ho : o < T.length) (x : Int32) : DI B T ((o, k, x) :: I) Q P A g (sI h (B + o) k x) := by
  obtain ⟨⟨h1, h2, h3, h4, h5⟩, i1, i2, i3, i4⟩ := H
  refine ⟨⟨h1, h2, h3, fun o' ho' k' => ?_, h5⟩, i1.cons ho, i2, i3, i4⟩
  obtain ⟨a1, a2, a3, a4⟩ := h4 o' ho' k'
  refine ⟨?_, a2, a3, a4⟩
  rw [hI_sI, lk]
  by_cases e : o' = o ∧ k' = k
  · obtain ⟨rfl, rfl⟩ := e
    rw [if_pos rfl, ud_s, if_pos ⟨rfl, rfl⟩]
  · rw [if_neg e]
    by_cases e2 : B + o' = B + o
    · rw [if_pos e2, ud_n (fun z => e ⟨by omega, z⟩), ← e2]; exact a1
    · rw [if_neg e2]; exact a1
theorem DI.aD (H : DI B T I Q P A g h) (ho : o < T.length) (x : UInt64) : DI B T I ((o, k, x) :: Q) P A g (sD h (B + o) k x) := by
  obtain ⟨⟨h1, h2, h3, h4, h5⟩, i1, i2, i3, i4⟩ := H
  refine ⟨⟨h1, h2, h3, fun o' ho' k' => ?_, h5⟩, i1, i2.cons ho, i3, i4⟩
  obtain ⟨a1, a2, a3, a4⟩ := h4 o' ho' k'
  refine ⟨a1, a2, ?_, a4⟩
  rw [hD_sD, lk]
  by_cases e : o' = o ∧ k' = k
  · obtain ⟨rfl, rfl⟩ := e
    rw [if_pos rfl, ud_s, if_pos ⟨rfl, rfl⟩]
  · rw [if_neg e]
    by_cases e2 : B + o' = B + o
    · rw [if_pos e2, ud_n (fun z => e ⟨by omega, z⟩), ← e2]; exact a3
    · rw [if_neg e2]; exact a3
/-- a step of a constructor comes to this -/
def OkI (B : Nat) (T : List (Nat × Nat)) (I : List (Nat × Nat × Int32)) (Q : List (Nat × Nat × UInt64)) (P A : List (Nat × Nat × Nat)) (K : Option (MT × CT)) : Prop := ∃ g' h', K = some (g', h') ∧ DI B T I Q P A g' h'
theorem ok_ret (H : DI B T I Q P A g h) : OkI B T I Q P A (some (g, h)) := ⟨g, h, rfl, H⟩
theorem ok_gq {T0 : List (Nat × Nat)} {I0 : List (Nat × Nat × Int32)} {Q0 : List (Nat × Nat × UInt64)} {P0 A0 : List (Nat × Nat × Nat)} {g0 : MT} {h0 : CT} {K : Option (MT × CT)} (H : DI B T0 I0 Q0 P0 A0 g0 h0) (e1 : T0.length ≤ T.length) (e2 : (T0.map Prod.snd).sum ≤ (T.map Prod.snd).sum) (k : OkI B T I Q P A K) : OkI B T I Q P A (gq Prod.fst g0 K) := by
  obtain ⟨g', h', rfl, D⟩ := k
  refine ⟨g', h', ?_, D⟩
  have n1 := H.N
  have n2 := D.N
  have u1 := H.U
  have u2 := D.U
  refine w_gq ⟨?_, ?_⟩
  · rw [n1]; exact Nat.le_trans (Nat.add_le_add_left e1 B) (Nat.le_of_eq n2.symm)
  · rw [u1]; exact Nat.le_trans e2 (Nat.le_of_eq u2.symm)
theorem ok_bd2 {T1 : List (Nat × Nat)} {I1 : List (Nat × Nat × Int32)} {Q1 : List (Nat × Nat × UInt64)} {P1 A1 : List (Nat × Nat × Nat)} {M : Option (MT × CT)} {K : MT → CT → Option (MT × CT)} (m : OkI B T1 I1 Q1 P1 A1 M) (k : ∀ g' h', DI B T1 I1 Q1 P1 A1 g' h' → OkI B T I Q P A (K g' h')) : OkI B T I Q P A (bd2 M K) := by
  obtain ⟨g', h', rfl, D⟩ := m
  exact k g' h' D
theorem ok_tg {a t' : Nat} {K : Option (MT × CT)} (e : gT g a = t') (k : OkI B T I Q P A K) : OkI B T I Q P A (tg g a t' K) := by rw [w_tg e]; exact k
end DSC
theorem w_na4 {α : Type} (k : Option α) : na (Int32.ofNat 4) k = k := w_na (n := 4) (by decide) k
theorem cl4 : Int32.toNatClampNeg (Int32.ofNat 4) = 4 := by decide
