/-! the TIMES of a run, in the reference -/
section RTM
variable {B : Nat} {g : MT} {h h' h1 h2 : CT} {F : Nat → Nat → Nat} {G : Nat → Nat → Int32} {y : Nat}
abbrev isR (j : Nat) : Prop := j = 0 ∨ j = 1 ∨ j = 2 ∨ j = 9 ∨ j = 11 ∨ j = 12
def rfO (j : Nat) : Nat := if j = 0 then 34 else if j = 1 then 35 else if j = 2 then 36 else if j = 9 then 31 else if j = 11 then 29 else 30
abbrev rfA (a : Nat) : Nat := if a = 3 then 196 else if a = 4 then 194 else 195
theorem rfO_in {j : Nat} : rfO j = 29 ∨ rfO j = 30 ∨ rfO j = 31 ∨ rfO j = 34 ∨ rfO j = 35 ∨ rfO j = 36 := by
  unfold rfO
  split; · omega
  split; · omega
  split; · omega
  split; · omega
  split <;> omega
theorem rfO_inj {i j : Nat} (hi : isR i) (hj : isR j) (e : rfO i = rfO j) : i = j := by
  rcases hi with rfl | rfl | rfl | rfl | rfl | rfl <;> rcases hj with rfl | rfl | rfl | rfl | rfl | rfl <;> first | rfl | (exact absurd e (by decide))
def TR (B y : Nat) (h : CT) (F : Nat → Nat → Nat) (G : Nat → Nat → Int32) : Prop := (∀ j, isR j → hI h (B + 187) (rfO j) = nI (F 0 j)) ∧ hI h (B + 187) 32 = nI (F 0 8) - 1 ∧ (∀ a j, 3 ≤ a → a ≤ 5 → j < tln a → hI h (B + rfA a) j = nI (F a j))
  ∧ (∀ j, j < 16 → (F 6 j = 0 ∧ hI h (B + 197) j = -12) ∨ (y ≤ F 6 j ∧ hI h (B + 197) j = nI (F 6 j - y))) ∧ (∀ j, j < 30 → hI h (B + 198) j = G 1 j) ∧ ∀ j, j < 30 → G 1 j = -1 ∨ hI h (B + 199) j = G 2 j
def RFr (B : Nat) (h h' : CT) : Prop := hR h' = hR h ∧ (∀ x, x ≠ B + 187 → (x < B + 194 ∨ B + 199 < x) → Eqa h h' x) ∧ (∀ k, ¬ (29 ≤ k ∧ k ≤ 32) → ¬ (34 ≤ k ∧ k ≤ 36) → hI h' (B + 187) k = hI h (B + 187) k) ∧ hL h' (B + 187) = hL h (B + 187)
theorem RFr.rf (B : Nat) (h : CT) : RFr B h h := ⟨rfl, fun x _ _ => Eqa.rf h x, fun _ _ _ => rfl, rfl⟩
theorem RFr.tr (x : RFr B h h1) (y : RFr B h1 h2) : RFr B h h2 := ⟨y.1.trans x.1, fun w a b => (x.2.1 w a b).tr (y.2.1 w a b), fun k a b => (y.2.2.1 k a b).trans (x.2.2.1 k a b), y.2.2.2.trans x.2.2.2⟩
theorem RFr.a (x : RFr B h h1) {a k : Nat} {v : Int32} (a1 : 194 ≤ a) (a2 : a ≤ 199) : RFr B h (sI h1 (B + a) k v) := ⟨x.1, fun w p q => (x.2.1 w p q).sI (by omega), fun j p q => by rw [hI_sI, if_neg (by omega)]; exact x.2.2.1 j p q, x.2.2.2⟩
theorem RFr.o (x : RFr B h h1) {k : Nat} {v : Int32} (hk : (29 ≤ k ∧ k ≤ 32) ∨ (34 ≤ k ∧ k ≤ 36)) : RFr B h (sI h1 (B + 187) k v) := ⟨x.1, fun w p q => (x.2.1 w p q).sI (by omega), fun j p q => by rw [hI_sI, if_pos rfl, ud_n (by omega)]; exact x.2.2.1 j p q, x.2.2.2⟩
theorem TR.to {F' : Nat → Nat → Nat} {G' : Nat → Nat → Int32} (C : TR B y h F G) (eF : ∀ a j, ¬ (a = 0 ∧ j = 10) → F' a j = F a j) (eG : ∀ a j, G' a j = G a j) : TR B y h F' G' := by
  have e2 : G' = G := funext fun a => funext fun j => eG a j
  rw [e2]
  refine ⟨fun j hj => ?_, ?_, fun a j a1 a2 a3 => ?_, fun j hj => ?_, C.2.2.2.2⟩
  · rw [eF 0 j (by omega)]; exact C.1 j hj
  · rw [eF 0 8 (by omega)]; exact C.2.1
  · rw [eF a j (by omega)]; exact C.2.2.1 a j a1 a2 a3
  · rw [eF 6 j (by omega)]; exact C.2.2.2.1 j hj
theorem TR.rw (C : TR B y h F G) (e : ∀ k, (29 ≤ k ∧ k ≤ 32) ∨ (34 ≤ k ∧ k ≤ 36) → hI h1 (B + 187) k = hI h (B + 187) k) (e2 : ∀ x, B + 194 ≤ x → x ≤ B + 199 → hI h1 x = hI h x) : TR B y h1 F G := by
  refine ⟨fun j hj => ?_, ?_, fun a j a1 a2 a3 => ?_, fun j hj => ?_, fun j hj => ?_, fun j hj => ?_⟩
  · have := rfO_in (j := j)
    rw [e _ (by omega)]; exact C.1 j hj
  · rw [e 32 (by omega)]; exact C.2.1
  · have : 194 ≤ rfA a ∧ rfA a ≤ 199 := by unfold rfA; split; · omega
                                           split <;> omega
    rw [e2 _ (by omega) (by omega)]; exact C.2.2.1 a j a1 a2 a3
  · rw [e2 _ (by omega) (by omega)]; exact C.2.2.2.1 j hj
  · rw [e2 _ (by omega) (by omega)]; exact C.2.2.2.2.1 j hj
  · rw [e2 _ (by omega) (by omega)]; exact C.2.2.2.2.2 j hj
theorem TR.o {v j : Nat} (C : TR B y h F G) (hj : isR j) : TR B y (sI h (B + 187) (rfO j) (nI v)) (up2 F 0 j v) G := by
  have q := rfO_in (j := j)
  refine ⟨fun i hi => ?_, ?_, fun a i a1 a2 a3 => ?_, fun i hi => ?_, fun i hi => ?_, fun i hi => ?_⟩
  · rw [hI_sI, if_pos rfl]
    by_cases e : i = j
    · rw [e, ud_s, up2_s]
    · rw [ud_n (fun z => e (rfO_inj hi hj z)), up2_n (fun q => e q.2)]; exact C.1 i hi
  · rw [hI_sI, if_pos rfl, ud_n (by omega), up2_n (by omega)]; exact C.2.1
  · have : 194 ≤ rfA a := by unfold rfA; split; · omega
                             split <;> omega
    rw [hI_sI, if_neg (by omega), up2_n (by omega)]; exact C.2.2.1 a i a1 a2 a3
  · rw [hI_sI, if_neg (by omega), up2_n (by omega)]; exact C.2.2.2.1 i hi
  · rw [hI_sI, if_neg (by omega)]; exact C.2.2.2.2.1 i hi
  · rw [hI_sI, if_neg (by omega)]; exact C.2.2.2.2.2 i hi
theorem TR.e8 {v : Nat} {x : Int32} (C : TR B y h F G) (hx : x = nI v - 1) : TR B y (sI h (B + 187) 32 x) (up2 F 0 8 v) G := by
  refine ⟨fun i hi => ?_, ?_, fun a i a1 a2 a3 => ?_, fun i hi => ?_, fun i hi => ?_, fun i hi => ?_⟩
  · have q := rfO_in (j := i)
    rw [hI_sI, if_pos rfl, ud_n (by omega), up2_n (by omega)]; exact C.1 i hi
  · rw [hI_sI, if_pos rfl, ud_s, up2_s]; exact hx
  · have : 194 ≤ rfA a := by unfold rfA; split; · omega
                             split <;> omega
    rw [hI_sI, if_neg (by omega), up2_n (by omega)]; exact C.2.2.1 a i a1 a2 a3
  · rw [hI_sI, if_neg (by omega), up2_n (by omega)]; exact C.2.2.2.1 i hi
  · rw [hI_sI, if_neg (by omega)]; exact C.2.2.2.2.1 i hi
  · rw [hI_sI, if_neg (by omega)]; exact C.2.2.2.2.2 i hi
theorem rfA_inj {a c : Nat} (a1 : 3 ≤ a) (a2 : a ≤ 5) (c1 : 3 ≤ c) (c2 : c ≤ 5) (e : rfA a = rfA c) : a = c := by
  have ha : a = 3 ∨ a = 4 ∨ a = 5 := by omega
  have hc : c = 3 ∨ c = 4 ∨ c = 5 := by omega
  rcases ha with rfl | rfl | rfl <;> rcases hc with rfl | rfl | rfl <;> first | rfl | (exact absurd e (by decide))
theorem rfA_in (a : Nat) : 194 ≤ rfA a ∧ rfA a ≤ 196 := by unfold rfA; split; · omega
                                                           split <;> omega
theorem TR.a {v a k : Nat} (C : TR B y h F G) (a1 : 3 ≤ a) (a2 : a ≤ 5) : TR B y (sI h (B + rfA a) k (nI v)) (up2 F a k v) G := by
  have q := rfA_in a
  refine ⟨fun i hi => ?_, ?_, fun c i c1 c2 c3 => ?_, fun i hi => ?_, fun i hi => ?_, fun i hi => ?_⟩
  · rw [hI_sI, if_neg (by omega), up2_n (by omega)]; exact C.1 i hi
  · rw [hI_sI, if_neg (by omega), up2_n (by omega)]; exact C.2.1
  · rw [hI_sI]
    by_cases e : c = a
    · subst e
      rw [if_pos rfl]
      by_cases e : i = k
      · rw [e, ud_s, up2_s]
      · rw [ud_n e, up2_n (fun q => e q.2)]; exact C.2.2.1 c i c1 c2 c3
    · rw [if_neg (fun z => e (rfA_inj c1 c2 a1 a2 (Nat.add_left_cancel z))), up2_n (fun q => e q.1)]; exact C.2.2.1 c i c1 c2 c3
  · rw [hI_sI, if_neg (by omega), up2_n (by omega)]; exact C.2.2.2.1 i hi
  · rw [hI_sI, if_neg (by omega)]; exact C.2.2.2.2.1 i hi
  · rw [hI_sI, if_neg (by omega)]; exact C.2.2.2.2.2 i hi
theorem TR.bank {v k : Nat} (C : TR B y h F G) : TR B y (sI h (B + 197) k (nI v)) (up2 F 6 k (v + y)) G := by
  refine ⟨fun i hi => ?_, ?_, fun c i c1 c2 c3 => ?_, fun i hi => ?_, fun i hi => ?_, fun i hi => ?_⟩
  · rw [hI_sI, if_neg (by omega), up2_n (by omega)]; exact C.1 i hi
  · rw [hI_sI, if_neg (by omega), up2_n (by omega)]; exact C.2.1
  · have q := rfA_in c
    rw [hI_sI, if_neg (by omega), up2_n (by omega)]; exact C.2.2.1 c i c1 c2 c3
  · rw [hI_sI, if_pos rfl]
    by_cases e : i = k
    · rw [e, ud_s, up2_s]; exact Or.inr ⟨by omega, by rw [Nat.add_sub_cancel]⟩
    · rw [ud_n e, up2_n (fun q => e q.2)]; exact C.2.2.2.1 i hi
  · rw [hI_sI, if_neg (by omega)]; exact C.2.2.2.2.1 i hi
  · rw [hI_sI, if_neg (by omega)]; exact C.2.2.2.2.2 i hi
/-- it BEGAN, has not ENDED -/
theorem TR.begun {k : Nat} {x : Int32} (C : TR B y h F G) : TR B y (sI (sI h (B + 198) k x) (B + 199) k (-1)) F (up2 (up2 G 1 k x) 2 k (-1)) := by
  refine ⟨fun i hi => ?_, ?_, fun c i c1 c2 c3 => ?_, fun i hi => ?_, fun i hi => ?_, fun i hi => ?_⟩
  · rw [hI_sI, if_neg (by omega), hI_sI, if_neg (by omega)]; exact C.1 i hi
  · rw [hI_sI, if_neg (by omega), hI_sI, if_neg (by omega)]; exact C.2.1
  · have q := rfA_in c
    rw [hI_sI, if_neg (by omega), hI_sI, if_neg (by omega)]; exact C.2.2.1 c i c1 c2 c3
  · rw [hI_sI, if_neg (by omega), hI_sI, if_neg (by omega)]; exact C.2.2.2.1 i hi
  · rw [hI_sI, if_neg (by omega), hI_sI, if_pos rfl, up2_n (by omega)]
    by_cases e : i = k
    · rw [e, ud_s, up2_s]
    · rw [ud_n e, up2_n (fun q => e q.2)]; exact C.2.2.2.2.1 i hi
  · rw [hI_sI, if_pos rfl]
    by_cases e : i = k
    · rw [e, ud_s, up2_s]; exact Or.inr rfl
    · rw [ud_n e, up2_n (fun q => absurd q.1 (by decide)), up2_n (fun q => e q.2), hI_sI, if_neg (by omega), up2_n (fun q => e q.2), up2_n (fun q => absurd q.1 (by decide))]; exact C.2.2.2.2.2 i hi
/-- it ENDED -/
theorem TR.ended {k : Nat} {x : Int32} (C : TR B y h F G) : TR B y (sI h (B + 199) k x) F (up2 G 2 k x) := by
  refine ⟨fun i hi => ?_, ?_, fun c i c1 c2 c3 => ?_, fun i hi => ?_, fun i hi => ?_, fun i hi => ?_⟩
  · rw [hI_sI, if_neg (by omega)]; exact C.1 i hi
  · rw [hI_sI, if_neg (by omega)]; exact C.2.1
  · have q := rfA_in c
    rw [hI_sI, if_neg (by omega)]; exact C.2.2.1 c i c1 c2 c3
  · rw [hI_sI, if_neg (by omega)]; exact C.2.2.2.1 i hi
  · rw [hI_sI, if_neg (by omega), up2_n (fun q => absurd q.1 (by decide))]; exact C.2.2.2.2.1 i hi
  · rw [hI_sI, if_pos rfl, up2_n (fun q => absurd q.1 (by decide))]
    by_cases e : i = k
    · rw [e, ud_s, up2_s]; exact Or.inr rfl
    · rw [ud_n e, up2_n (fun q => e q.2)]; exact C.2.2.2.2.2 i hi
/-- the INSTRUCTION ik, in the reference -/
def IM (B : Nat) (h : CT) (ik : Nat) (f : Nat → Nat) : Prop := hI h (B + 192) (6 + 8 * ik + 0) = nI (f 0) ∧ hI h (B + 192) (6 + 8 * ik + 1) = nI (f 1) ∧ hI h (B + 192) (6 + 8 * ik + 2) = nI (f 2) ∧ hI h (B + 192) (6 + 8 * ik + 3) = nI (f 3)
  ∧ hI h (B + 192) (6 + 8 * ik + 4) = nI (if f 0 = 0 ∨ f 0 = 25 then f 7 else f 5) ∧ hI h (B + 192) (6 + 8 * ik + 5) = nI (if f 0 = 3 ∨ f 0 = 4 then f 6 else f 4) ∧ hI h (B + 192) (6 + 8 * ik + 6) = nI (f 8) ∧ (f 0 = 25 → hI h (B + 192) (6 + 8 * ik + 7) = nI (f 9))
theorem PgM.im {π : Pg} (M : PgM (hI h (B + 192)) 0 π) {k : Nat} (hk : k < π.1) : IM B h k (π.2 k) := by
  obtain ⟨a0, a1, a2, a3, a4, a5, a6, a7⟩ := M.2 k hk
  have ea : ∀ f, 0 + (6 + f) + 8 * k = 6 + 8 * k + f := fun f => by omega
  refine ⟨by rw [← ea]; exact a0, by rw [← ea]; exact a1, by rw [← ea]; exact a2, by rw [← ea]; exact a3, by rw [← ea]; exact a4, by rw [← ea]; exact a5, by rw [← ea]; exact a6, fun q => by rw [← ea]; exact a7 q⟩
variable {ik : Nat} {f : Nat → Nat}
theorem im_at (S : Sh B g) (p2 : PtR B (hR h)) (hk : ik < 30) (I : IM B h ik f) : pX13_at g h (B + 187) (nI ik) 0 = some (nI (f 0)) ∧ pX13_at g h (B + 187) (nI ik) 1 = some (nI (f 1)) ∧ pX13_at g h (B + 187) (nI ik) 2 = some (nI (f 2)) ∧ pX13_at g h (B + 187) (nI ik) 3 = some (nI (f 3))
    ∧ pX13_at g h (B + 187) (nI ik) 4 = some (nI (if f 0 = 0 ∨ f 0 = 25 then f 7 else f 5)) ∧ pX13_at g h (B + 187) (nI ik) 5 = some (nI (if f 0 = 3 ∨ f 0 = 4 then f 6 else f 4)) ∧ pX13_at g h (B + 187) (nI ik) 6 = some (nI (f 8)) ∧ (f 0 = 25 → pX13_at g h (B + 187) (nI ik) 7 = some (nI (f 9))) := by
  obtain ⟨a0, a1, a2, a3, a4, a5, a6, a7⟩ := I
  refine ⟨?_, ?_, ?_, ?_, ?_, ?_, ?_, fun q => ?_⟩
  · rw [← a0]; exact m_at S p2 (by omega) (f := 0) (by decide)
  · rw [← a1]; exact m_at S p2 (by omega) (f := 1) (by decide)
  · rw [← a2]; exact m_at S p2 (by omega) (f := 2) (by decide)
  · rw [← a3]; exact m_at S p2 (by omega) (f := 3) (by decide)
  · rw [← a4]; exact m_at S p2 (by omega) (f := 4) (by decide)
  · rw [← a5]; exact m_at S p2 (by omega) (f := 5) (by decide)
  · rw [← a6]; exact m_at S p2 (by omega) (f := 6) (by decide)
  · rw [← a7 q]; exact m_at S p2 (by omega) (f := 7) (by decide)
theorem IM.keep (I : IM B h ik f) (e : ∀ i, 6 ≤ i → hI h1 (B + 192) i = hI h (B + 192) i) : IM B h1 ik f := by
  obtain ⟨a0, a1, a2, a3, a4, a5, a6, a7⟩ := I
  exact ⟨by rw [e _ (by omega)]; exact a0, by rw [e _ (by omega)]; exact a1, by rw [e _ (by omega)]; exact a2, by rw [e _ (by omega)]; exact a3, by rw [e _ (by omega)]; exact a4, by rw [e _ (by omega)]; exact a5, by rw [e _ (by omega)]; exact a6, fun q => by rw [e _ (by omega)]; exact a7 q⟩
theorem IM.fr (I : IM B h ik f) (x : RFr B h h1) : IM B h1 ik f := I.keep fun i _ => by rw [(x.2.1 (B + 192) (by omega) (by omega)).1]
theorem r_lasts (S : Sh B g) {c v : Nat} (e : hI h (B + 187) 34 = nI c) (hc : c < 2 ^ 31) (hv : v < 2 ^ 31) : pX13_lasts g h (B + 187) (nI v) = some (sI h (B + 187) 34 (nI (max c v))) := by
  unfold pX13_lasts
  rw [w_tg (st_187 S), e, max_nI hc hv, w_lt]
theorem r_cell {d i : Nat} : (16 : Int32) * nI d + nI i = nI (16 * d + i) := by rw [show (16 : Int32) = nI 16 from rfl, pk_mul, nI_add]
theorem r_waits (S : Sh B g) (p2 : PtR B (hR h)) (C : TR B y h F G) {d i t : Nat} (hd : d < 6) (hi : i < 16) (ht : t < 2 ^ 31) (hF : F 4 (16 * d + i) < 2 ^ 31) : pX13_waitsFor g h (B + 187) (nI d) (nI i) (nI t) = some (nI (max t (F 4 (16 * d + i)))) := by
  unfold pX13_waitsFor
  rw [w_tg (st_187 S), w_lt, pr_187_23 p2, w_nn, w_tg (st_194 S), sl_194 S, r_cell, w_ix (show 16 * d + i < 96 by omega) (by decide), nI_clamp (by omega), show hI h (B + 194) (16 * d + i) = nI (F 4 (16 * d + i)) from C.2.2.1 4 _ (by decide) (by decide) (show 16 * d + i < 96 by omega), max_nI ht hF]
theorem r_reads (S : Sh B g) (p2 : PtR B (hR h)) (C : TR B y h F G) {d i w : Nat} (hd : d < 6) (hi : i < 16) (hw : w < 2 ^ 31) (hF : F 5 (16 * d + i) < 2 ^ 31) : pX13_reads g h (B + 187) (nI d) (nI i) (nI w) = some (sI h (B + 195) (16 * d + i) (nI (max (F 5 (16 * d + i)) w))) := by
  unfold pX13_reads
  rw [w_tg (st_187 S), w_lt, w_lt, pr_187_24 p2, w_nn, w_tg (st_195 S), sl_195 S, r_cell, w_ix (show 16 * d + i < 96 by omega) (by decide), w_nn, w_tg (st_195 S), sl_195 S, w_ix (show 16 * d + i < 96 by omega) (by decide), nI_clamp (by omega), show hI h (B + 195) (16 * d + i) = nI (F 5 (16 * d + i)) from C.2.2.1 5 _ (by decide) (by decide) (show 16 * d + i < 96 by omega), max_nI hF hw, w_lt]
end RTM
