/-! beginnings and what comes behind the elements, in the reference -/
section RBG
variable {B : Nat} {g : MT} {h h' h1 h2 : CT} {F : Nat → Nat → Nat} {G : Nat → Nat → Int32} {y : Nat} {ik : Nat} {f : Nat → Nat}
theorem r_rowTime (S : Sh B g) (p2 : PtR B (hR h)) (C : TR B y h F G) {a d n T : Nat} (ha : a = 4 ∨ a = 5) (hd : d < 6) (hn : n ≤ 16) (en : hI h (B + 192) 0 = nI n) (hF : ∀ a j, F a j ≤ T) (hT : T < 2 ^ 31) : pX13_rowTime g h (B + 187) (B + rfA a) (nI d) = some (nI (sup0 (fun i => F a (16 * d + i)) n)) := by
  have tl : gT g (B + rfA a) = 20 ∧ gL g (B + rfA a) = 96 := by rcases ha with rfl | rfl; exact ⟨st_194 S, sl_194 S⟩; exact ⟨st_195 S, sl_195 S⟩
  have := loopN (L := fun u j (s : Int32) => pX13_rowTime_l5 g h (B + 187) (B + rfA a) (nI d) u s (nI j)) (N := n) (Inv := fun j s => s = nI (sup0 (fun i => F a (16 * d + i)) j)) (Post := fun s => s = nI (sup0 (fun i => F a (16 * d + i)) n)) (fun u j s hj H => by
      subst H
      have hc : 16 * d + j < 96 := by omega
      have s1 := sup0_le (f := fun i => F a (16 * d + i)) (fun i => hF a _) j
      have q1 := hF a (16 * d + j)
      have r1 := C.2.2.1 a (16 * d + j) (by omega) (by omega) (by unfold tln; split; · omega
                                                                  split <;> omega)
      refine ⟨nI (max (sup0 (fun i => F a (16 * d + i)) j) (F a (16 * d + j))), ?_, rfl⟩
      show pX13_rowTime_l5 g h (B + 187) (B + rfA a) (nI d) (u + 1) (nI (sup0 (fun i => F a (16 * d + i)) j)) (nI j) = _
      rw [pX13_rowTime_l5, pX13_rowTime_b5, w_lt, pr_187_19 p2, w_nn, w_tg (st_192 S), sl_192 S, show (0 : Int32) = nI 0 from rfl, w_ix (show 0 < 1476 by decide) (by decide), nI_clamp (show 0 < 2 ^ 31 by decide), en, if_neg (nI_ge hj (by omega)), w_tg tl.1, tl.2, r_cell, w_ix hc (by decide), nI_clamp (by omega), r1, max_nI (by omega) (by omega), w_lt, w_lt, nI_1]) (fun u s H => ⟨s, by
    show pX13_rowTime_l5 g h (B + 187) (B + rfA a) (nI d) (u + 1) s (nI n) = _
    rw [pX13_rowTime_l5, pX13_rowTime_b5, w_lt, pr_187_19 p2, w_nn, w_tg (st_192 S), sl_192 S, show (0 : Int32) = nI 0 from rfl, w_ix (show 0 < 1476 by decide) (by decide), nI_clamp (show 0 < 2 ^ 31 by decide), en, if_pos (nI_le (Nat.le_refl n) (by omega))], H⟩) n 0 FUEL 0 (by omega) (by unfold FUEL; omega) rfl
  obtain ⟨r, q1, rfl⟩ := this
  unfold pX13_rowTime
  rw [w_tg (st_187 S)]
  exact q1
theorem q_k {k j : Nat} (hk : k < 27) (hj : j < 27) : (nI k = nI j) = (k = j) := propext (nI_eq (by omega) (by omega))
theorem r_beginning (S : Sh B g) (p2 : PtR B (hR h)) (C : TR B y h F G) (hk : ik < 30) (I : IM B h ik f) (hf : FOK f) {n T : Nat} (hn : n ≤ 16) (en : hI h (B + 192) 0 = nI n) (hF : ∀ a j, F a j ≤ T) (hT : T + 100 < 2 ^ 30) : pX13_beginning g h (B + 187) (nI ik) = some (nI (bgT F f n)) := by
  obtain ⟨a0, a1, a2, a3, a4, a5, a6, a7⟩ := im_at S p2 hk I
  obtain ⟨m1, m2, m3, m4, m5, m6, m7, m8, m9, m10⟩ := kt_m (f 0) hf.1
  have u4 := unN_lt (f 0)
  have h8 := hF 0 8
  have h9 := hF 0 9
  have h3 := hF 3 (unN (f 0))
  have h11 := hF 0 11
  have h12 := hF 0 12
  have hs := sup0_le (f := rrF F f) (rrF_le hF) n
  have hs4 := sup0_le (f := fun i => F 4 (16 * f 1 + i)) (fun i => hF 4 _) n
  have hs5 := sup0_le (f := fun i => F 5 (16 * f 1 + i)) (fun i => hF 5 _) n
  have t4 := r_rowTime S p2 C (a := 4) (Or.inl rfl) hf.2.1 hn en hF (by omega)
  have t5 := r_rowTime S p2 C (a := 5) (Or.inr rfl) hf.2.1 hn en hF (by omega)
  have e11 : hI h (B + 187) 29 = nI (F 0 11) := C.1 11 (by decide)
  have e12 : hI h (B + 187) 30 = nI (F 0 12) := C.1 12 (by decide)
  have e9 : hI h (B + 187) 31 = nI (F 0 9) := C.1 9 (by decide)
  have q20 : (nI (f 0) = 20) = (f 0 = 20) := q_k (j := 20) hf.1 (by decide)
  have q21 : (nI (f 0) = 21) = (f 0 = 21) := q_k (j := 21) hf.1 (by decide)
  have q22 : (nI (f 0) = 22) = (f 0 = 22) := q_k (j := 22) hf.1 (by decide)
  have q8 : (nI (f 8) = 1) = (f 8 = 1) := propext (nI_eq (b := 1) (by have := hf.2.2.2.2.2.2.2.2.2.1; omega) (by decide))
  have c132 : ∀ u, u ≤ T → pX13_beginning_b132 g h (B + 187) (nI ik) (nI (f 0)) (nI u) = some (nI (max u (sup0 (rrF F f) n))) := fun u hu => by
    unfold pX13_beginning_b132 pX13_beginning_b153
    rw [w_lt, pr_187_23 p2, a1, w_bd, w_nn, show (B + 194) = B + rfA 4 from rfl, t4, w_bd, max_nI (by omega) (by omega), w_lt]
    simp only [q21]
    by_cases c : f 0 = 21
    · rw [if_pos c, w_lt, pr_187_24 p2, w_bd, w_nn, show (B + 195) = B + rfA 5 from rfl, t5, w_bd, max_nI (by omega) (by omega), w_lt]
      have e : rrF F f = fun i => max (F 4 (16 * f 1 + i)) (F 5 (16 * f 1 + i)) := funext fun i => by unfold rrF; rw [if_pos c]
      rw [e, sup0_max, Nat.max_assoc]
    · have e : rrF F f = fun i => F 4 (16 * f 1 + i) := funext fun i => by unfold rrF; rw [if_neg c]
      rw [if_neg c, e]
  have c119 : ∀ u, u ≤ T → pX13_beginning_b119 g h (B + 187) (nI ik) (nI (f 0)) (nI u) = some (nI (max u (if f 0 = 21 ∨ isFo (f 0) then sup0 (rrF F f) n else 0))) := fun u hu => by
    unfold pX13_beginning_b119 pX13_beginning_b153
    rw [c132 u hu]
    simp only [q21, m8, ite_not]
    by_cases c1 : f 0 = 21
    · rw [if_pos c1, if_pos (Or.inl c1)]
    · by_cases c2 : isFo (f 0)
      · rw [if_neg c1, if_pos c2, if_pos (Or.inr c2)]
      · rw [if_neg c1, if_neg c2, if_neg c1, if_neg (fun q => q.elim c1 c2), Nat.max_zero]
  have c44 : ∀ u, u ≤ T → pX13_beginning_b44 g h (B + 187) (nI ik) (nI (f 0)) (nI u) = pX13_beginning_b119 g h (B + 187) (nI ik) (nI (f 0)) (nI (max (max u (if f 8 = 1 ∨ isCp (f 0) ∨ f 0 = 20 ∨ f 0 = 21 ∨ f 0 = 22 then F 0 11 else 0)) (if isCp (f 0) ∨ f 0 = 20 then F 0 12 else 0))) := fun u hu => by
    unfold pX13_beginning_b44 pX13_beginning_b57 pX13_beginning_b62 pX13_beginning_b92 pX13_beginning_b103
    simp only [q20, q21, q22, m7, ite_not, a6, w_bd, q8, e11, e12]
    rw [max_nI (show u < 2 ^ 31 by omega) (show F 0 11 < 2 ^ 31 by omega)]
    simp only [w_lt]
    rw [max_nI (show max u (F 0 11) < 2 ^ 31 by omega) (show F 0 12 < 2 ^ 31 by omega), if_neg (show ¬ (1 : Int32) = 0 by decide)]
    simp only [if_true]
    by_cases c : isCp (f 0) ∨ f 0 = 20
    · rw [if_pos (show f 8 = 1 ∨ isCp (f 0) ∨ f 0 = 20 ∨ f 0 = 21 ∨ f 0 = 22 by omega), if_pos c]
      rcases c with c | c
      · rw [if_pos c, if_neg (show ¬ (1 : Int32) = 0 by decide)]
      · rw [if_pos c]; split <;> rfl
    · rw [if_neg (show ¬ isCp (f 0) from fun q => c (Or.inl q)), if_neg (show ¬ f 0 = 20 from fun q => c (Or.inr q)), if_neg c, Nat.max_zero]
      by_cases c1 : f 0 = 21
      · rw [if_pos c1, if_pos (by omega)]
      · by_cases c2 : f 0 = 22
        · rw [if_neg c1, if_pos c2, if_pos (by omega)]
        · by_cases c3 : f 8 = 1
          · rw [if_neg c1, if_neg c2, if_pos c3, if_pos (by omega)]
          · rw [if_neg c1, if_neg c2, if_neg c3, if_neg (by omega), Nat.max_zero]
  have e80 : hI h (B + 187) 32 + 1 = nI (F 0 8) := by rw [C.2.1, Int32.sub_add_cancel]
  have cA : pX13_beginning g h (B + 187) (nI ik) = pX13_beginning_b44 g h (B + 187) (nI ik) (nI (f 0)) (nI (max (max (F 0 8) (F 0 9)) (if isEl (f 0) then F 3 (unN (f 0)) else 0))) := by
    unfold pX13_beginning
    rw [w_tg (st_187 S), a0, w_bd, m9, e80, e9, max_nI (by omega) (by omega), w_lt, w_lt]
    by_cases c : isEl (f 0)
    · rw [if_pos c, if_pos c, if_neg (nI_pos (by omega)), w_lt, pr_187_25 p2, w_nn, w_tg (st_196 S), sl_196 S, w_ix u4 (by decide), nI_clamp (by omega), show hI h (B + 196) (unN (f 0)) = nI (F 3 (unN (f 0))) from C.2.2.1 3 _ (by decide) (by decide) u4, max_nI (by omega) (by omega), w_lt]
    · rw [if_neg c, if_neg c, if_pos (by decide), Nat.max_zero]
  have l1 : max (max (F 0 8) (F 0 9)) (if isEl (f 0) then F 3 (unN (f 0)) else 0) ≤ T := by split <;> omega
  have il : ∀ (p : Prop) [Decidable p] (x : Nat), x ≤ T → (if p then x else 0) ≤ T := fun p _ x hx => by split <;> omega
  rw [cA, c44 _ l1, c119 _ (Nat.max_le.mpr ⟨Nat.max_le.mpr ⟨l1, il _ _ h11⟩, il _ _ h12⟩)]
  rfl
theorem r_begins (S : Sh B g) (C : TR B y h F G) {t T : Nat} (ht : t ≤ T) (hF : ∀ a j, F a j ≤ T) (hT : T + 100 < 2 ^ 30) : ∃ h', pX13_begins g h (B + 187) (nI t) = some h' ∧ TR B y h' (bgF F t) G ∧ RFr B h h' := by
  have h00 := hF 0 0
  have C1 := C.e8 (v := t + 1) (x := nI t) (pk_sub (a := t + 1) (b := 1) (by omega)).symm
  have e00 : hI (sI h (B + 187) 32 (nI t)) (B + 187) 34 = nI (F 0 0) := by rw [hI_sI, if_pos rfl, ud_n (by decide)]; exact C.1 0 (by decide)
  unfold pX13_begins
  rw [w_tg (st_187 S), w_lt, r_lasts S e00 (by omega) (by omega), w_bd]
  exact ⟨_, rfl, C1.o (j := 0) (by decide), ((RFr.rf B h).o (by decide)).o (by decide)⟩
theorem r_ends (S : Sh B g) (p2 : PtR B (hR h)) (C : TR B y h F G) {e T : Nat} (hk : ik < 30) (he : e ≤ T + 60) (hF : ∀ a j, F a j ≤ T) (hT : T + 100 < 2 ^ 30) : ∃ h', pX13_ends g h (B + 187) (nI ik) (nI e) = some h' ∧ TR B y h' (enF F e) (up2 G 2 ik (nI e)) ∧ RFr B h h' := by
  have h00 := hF 0 0
  have C1 : TR B y (sI (sI h (B + 187) 31 (nI e)) (B + 199) ik (nI e)) (up2 F 0 9 e) (up2 G 2 ik (nI e)) := (C.o (j := 9) (by decide)).ended
  have e00 : hI (sI (sI h (B + 187) 31 (nI e)) (B + 199) ik (nI e)) (B + 187) 34 = nI (F 0 0) := by rw [hI_sI, if_neg (by omega), hI_sI, if_pos rfl, ud_n (by decide)]; exact C.1 0 (by decide)
  unfold pX13_ends
  rw [w_tg (st_187 S), w_lt, w_lt, hR_sI, pr_187_28 p2, w_nn, w_tg (st_199 S), sl_199 S, w_ix hk (by decide), nI_clamp (by omega), w_lt, r_lasts S e00 (by omega) (by omega), w_bd]
  exact ⟨_, rfl, C1.o (j := 0) (by decide), (((RFr.rf B h).o (by decide)).a (by decide) (by decide)).o (by decide)⟩
theorem r_settles (S : Sh B g) (p0 : PtR B (hR h)) (C : TR B y h F G) (hk : ik < 30) (I0 : IM B h ik f) (hf : FOK f) (he : isEl (f 0)) {w n T : Nat} (hn : n ≤ 16) (hn21 : n ≠ 0 → f 0 = 21) (hw : w ≤ T) (hF : ∀ a j, F a j ≤ T) (hT : T + 100 < 2 ^ 30) (e42 : hI h (B + 187) 42 = nI n) : ∃ h', pX13_settles g h (B + 187) (nI ik) (nI w) = some h' ∧ TR B y h' (fnF F f w n) G ∧ RFr B h h' := by
  obtain ⟨m1, m2, m3, m4, m5, m6, m7, m8, m9, m10⟩ := kt_m (f 0) hf.1
  have u4 := unN_lt (f 0)
  have h00 := hF 0 0
  have h12 := hF 0 12
  have la3 : isCp (f 0) ∨ f 0 = 21 → laN (f 0) = 3 := fun q => by unfold laN; rw [if_neg (by omega), if_neg (by omega), if_neg (by omega)]
  have q21 : (nI (f 0) = 21) = (f 0 = 21) := q_k (j := 21) hf.1 (by decide)
  have q8 : (nI (f 8) = 1) = (f 8 = 1) := propext (nI_eq (b := 1) (by have := hf.2.2.2.2.2.2.2.2.2.1; omega) (by decide))
  -- what was packed
  have c70 : ∀ (h : CT) (F : Nat → Nat → Nat), PtR B (hR h) → TR B y h F G → IM B h ik f → hI h (B + 187) 42 = nI n → F 0 0 ≤ T + 3 → ∃ h', pX13_settles_b70 g (B + 187) (nI ik) (nI w) h = some h' ∧ TR B y h' (fun a j => if a = 0 ∧ j = 0 then max (F 0 0) (if 0 < n then w + 3 else 0) else if a = 4 ∧ 16 * f 1 ≤ j ∧ j < 16 * f 1 + n then w + 3 else F a j) G ∧ RFr B h h' := fun h F p2 C0 I e42 h00 => by
    have := loopN (L := fun u j x => pX13_settles_l73 g (B + 187) (nI ik) (nI w) u (nI j) x) (N := n) (Inv := fun j x => TR B y x (fun a i => if a = 0 ∧ i = 0 then max (F 0 0) (if 0 < j then w + 3 else 0) else if a = 4 ∧ 16 * f 1 ≤ i ∧ i < 16 * f 1 + j then w + 3 else F a i) G ∧ RFr B h x)
      (Post := fun x => TR B y x (fun a i => if a = 0 ∧ i = 0 then max (F 0 0) (if 0 < n then w + 3 else 0) else if a = 4 ∧ 16 * f 1 ≤ i ∧ i < 16 * f 1 + n then w + 3 else F a i) G ∧ RFr B h x) (fun u j x hj H => by
        obtain ⟨C, fr⟩ := H
        have px : PtR B (hR x) := by rw [fr.1]; exact p2
        have Ix := I.fr fr
        have hc : 16 * f 1 + j < 96 := by have := hf.2.1; omega
        have e00 : hI (sI x (B + 194) (16 * f 1 + j) (nI (w + 3))) (B + 187) 34 = nI (max (F 0 0) (if 0 < j then w + 3 else 0)) := by rw [hI_sI, if_neg (by omega)]; exact C.1 0 (by decide)
        refine ⟨sI (sI x (B + 194) (16 * f 1 + j) (nI (w + 3))) (B + 187) 34 (nI (max (max (F 0 0) (if 0 < j then w + 3 else 0)) (w + 3))), ?_, ?_, (fr.a (by decide) (by decide)).o (by decide)⟩
        · show pX13_settles_l73 g (B + 187) (nI ik) (nI w) (u + 1) (nI j) x = _
          rw [pX13_settles_l73, pX13_settles_b73, fr.2.2.1 42 (by decide) (by decide), e42, if_neg (nI_ge hj (by omega)), w_lt, (im_at S px hk Ix).2.1, w_bd, pr_187_23 px, w_nn, w_tg (st_194 S), sl_194 S, r_cell, w_ix hc (by decide), nI_clamp (by omega), show (3 : Int32) = nI 3 from rfl, nI_add, w_lt, r_lasts S e00 (by split <;> omega) (by omega), w_bd, w_lt, nI_1]
        · refine TR.to ((C.a (a := 4) (k := 16 * f 1 + j) (v := w + 3) (by decide) (by decide)).o (j := 0) (v := max (max (F 0 0) (if 0 < j then w + 3 else 0)) (w + 3)) (by decide)) (fun a i _ => ?_) (fun _ _ => rfl)
          by_cases e0 : a = 0 ∧ i = 0
          · rw [if_pos e0, e0.1, e0.2, up2_s, if_pos (by omega)]
            split <;> omega
          · rw [if_neg e0, up2_n e0]
            by_cases e4 : a = 4 ∧ i = 16 * f 1 + j
            · rw [if_pos ⟨e4.1, by omega, by omega⟩, e4.1, e4.2, up2_s]
            · rw [up2_n e4, if_neg e0]
              by_cases e5 : a = 4 ∧ 16 * f 1 ≤ i ∧ i < 16 * f 1 + j
              · rw [if_pos e5, if_pos ⟨e5.1, e5.2.1, by omega⟩]
              · rw [if_neg e5, if_neg (fun q => e5 ⟨q.1, q.2.1, by have := q.2.2; have := q.1; omega⟩)]) (fun u x H => ⟨x, by
      show pX13_settles_l73 g (B + 187) (nI ik) (nI w) (u + 1) (nI n) x = _
      rw [pX13_settles_l73, pX13_settles_b73, H.2.2.2.1 42 (by decide) (by decide), e42, if_pos (nI_le (Nat.le_refl n) (by omega))], H⟩) n 0 FUEL h (by omega) (by unfold FUEL; omega) ⟨TR.to C0 (fun a j _ => by
        by_cases e0 : a = 0 ∧ j = 0
        · rw [if_pos e0, e0.1, e0.2, if_neg (by omega), Nat.max_zero]
        · rw [if_neg e0, if_neg (by omega)]) (fun _ _ => rfl), RFr.rf B h⟩
    obtain ⟨r, q1, q2, q3⟩ := this
    exact ⟨r, q1, q2, q3⟩
  have c41 : ∀ (h : CT) (F : Nat → Nat → Nat), PtR B (hR h) → TR B y h F G → IM B h ik f → hI h (B + 187) 42 = nI n → F 0 0 ≤ T + 3 → F 0 12 ≤ T → ∃ h', pX13_settles_b41 g (B + 187) (nI ik) (nI w) (nI (f 0)) h = some h' ∧ TR B y h' (fun a j => if a = 0 ∧ j = 0 then max (F 0 0) (if 0 < n then w + 3 else 0) else if a = 4 ∧ 16 * f 1 ≤ j ∧ j < 16 * f 1 + n then w + 3 else if a = 0 ∧ j = 12 ∧ (f 8 = 1 ∨ f 0 = 21) then max (F 0 12) w else F a j) G ∧ RFr B h h' := fun h F p2 C I e42 h00 h12 => by
    have b58 : ∃ h', pX13_settles_b58 g (B + 187) (nI ik) (nI w) h = some h' ∧ TR B y h' (fun a j => if a = 0 ∧ j = 0 then max (F 0 0) (if 0 < n then w + 3 else 0) else if a = 4 ∧ 16 * f 1 ≤ j ∧ j < 16 * f 1 + n then w + 3 else if a = 0 ∧ j = 12 then max (F 0 12) w else F a j) G ∧ RFr B h h' := by
      unfold pX13_settles_b58
      rw [show hI h (B + 187) 30 = nI (F 0 12) from C.1 12 (by decide), max_nI (by omega) (by omega), w_lt]
      have fr : RFr B h (sI h (B + 187) 30 (nI (max (F 0 12) w))) := (RFr.rf B h).o (by decide)
      obtain ⟨h', q1, q2, q3⟩ := c70 (sI h (B + 187) 30 (nI (max (F 0 12) w))) _ p2 (C.o (j := 12) (by decide)) (I.fr fr) (by rw [fr.2.2.1 42 (by decide) (by decide)]; exact e42) (by rw [up2_n (by omega)]; exact h00)
      refine ⟨h', q1, q2.to (fun a j _ => ?_) (fun _ _ => rfl), fr.tr q3⟩
      rw [up2_n (show ¬ ((0 : Nat) = 0 ∧ (0 : Nat) = 12) by omega)]
      rfl
    unfold pX13_settles_b41
    simp only [q21, (im_at S p2 hk I).2.2.2.2.2.2.1, w_bd, q8]
    by_cases c21 : f 0 = 21
    · rw [if_pos c21]
      obtain ⟨h', q1, q2, q3⟩ := b58
      exact ⟨h', q1, q2.to (fun a j _ => by simp only [c21, or_true, and_true]) (fun _ _ => rfl), q3⟩
    · rw [if_neg c21]
      by_cases c8 : f 8 = 1
      · rw [if_pos c8]
        obtain ⟨h', q1, q2, q3⟩ := b58
        exact ⟨h', q1, q2.to (fun a j _ => by simp only [c8, true_or, and_true]) (fun _ _ => rfl), q3⟩
      · rw [if_neg c8]
        obtain ⟨h', q1, q2, q3⟩ := c70 h F p2 C I e42 h00
        exact ⟨h', q1, q2.to (fun a j _ => by simp only [c21, c8, or_false, and_false, if_false]) (fun _ _ => rfl), q3⟩
  have fr0 : RFr B h (sI h (B + 196) (unN (f 0)) (nI (w + 1))) := (RFr.rf B h).a (by decide) (by decide)
  have C0 : TR B y (sI h (B + 196) (unN (f 0)) (nI (w + 1))) (up2 F 3 (unN (f 0)) (w + 1)) G := C.a (a := 3) (by decide) (by decide)
  have n0 : up2 F 3 (unN (f 0)) (w + 1) 0 = F 0 := funext fun j => up2_n (by omega)
  have w3 : (0 < n → w + 3 = w + laN (f 0)) := fun q => by rw [la3 (Or.inr (hn21 (by omega)))]
  have e42' := fr0.2.2.1 42 (by decide) (by decide)
  rw [e42] at e42'
  unfold pX13_settles
  rw [w_tg (st_187 S), (im_at S p0 hk I0).1, w_bd, w_lt, pr_187_25 p0, w_nn, w_tg (st_196 S), sl_196 S, m9, if_pos he, w_ix u4 (by decide), nI_clamp (by omega), nI_1, w_lt]
  have p3 : PtR B (hR (sI h (B + 196) (unN (f 0)) (nI (w + 1)))) := p0
  generalize sI h (B + 196) (unN (f 0)) (nI (w + 1)) = h3 at *
  have I3 := I0.fr fr0
  simp only [m7, ite_not]
  by_cases c : isCp (f 0)
  · have la := la3 (Or.inl c)
    rw [if_pos c, show (3 : Int32) = nI 3 from rfl, nI_add, w_lt, hI_s]
    have C4 : TR B y (sI h3 (B + 187) 29 (nI (w + 3))) _ G := C0.o (j := 11) (v := w + 3) (by decide)
    have fr4 : RFr B h (sI h3 (B + 187) 29 (nI (w + 3))) := fr0.o (by decide)
    have e00 : hI (sI h3 (B + 187) 29 (nI (w + 3))) (B + 187) 34 = nI (F 0 0) := by
      have := C4.1 0 (by decide)
      rw [up2_n (by omega), n0] at this
      exact this
    rw [r_lasts S e00 (by omega) (by omega), w_bd]
    have C5 : TR B y (sI (sI h3 (B + 187) 29 (nI (w + 3))) (B + 187) 34 (nI (max (F 0 0) (w + 3)))) _ G := C4.o (j := 0) (v := max (F 0 0) (w + 3)) (by decide)
    have fr5 : RFr B h (sI (sI h3 (B + 187) 29 (nI (w + 3))) (B + 187) 34 (nI (max (F 0 0) (w + 3)))) := fr4.o (by decide)
    obtain ⟨h', q1, q2, q3⟩ := c41 (sI (sI h3 (B + 187) 29 (nI (w + 3))) (B + 187) 34 (nI (max (F 0 0) (w + 3)))) _ p3 C5 (I0.fr fr5) (by rw [fr5.2.2.1 42 (by decide) (by decide)]; exact e42) (by rw [up2_s]; omega) (by rw [up2_n (by omega), up2_n (by omega), n0]; omega)
    refine ⟨h', q1, q2.to (fun a j _ => ?_) (fun _ _ => rfl), fr5.tr q3⟩
    have c21 : ¬ f 0 = 21 := by omega
    have c8 : ¬ f 8 = 1 := fun q => by have := hf.2.2.2.2.2.2.2.2.2.2 q; omega
    have cn : n = 0 := Classical.byContradiction fun q => c21 (hn21 q)
    subst cn
    have hfo := hf.2.2.2.2.2.2.2.2.2
    clear q1 q2 q3 c41 c70 C C0 I0 I3 S p0 p3 fr0 fr4 C4 fr5 C5 e00 e42 e42' m10 hf
    unfold fnF up2
    grind (splits := 40)
  · rw [if_neg c]
    obtain ⟨h', q1, q2, q3⟩ := c41 h3 _ p3 C0 I3 e42' (by rw [n0]; omega) (by rw [n0]; exact h12)
    refine ⟨h', q1, q2.to (fun a j _ => ?_) (fun _ _ => rfl), fr0.tr q3⟩
    have hfo := hf.2.2.2.2.2.2.2.2.2
    clear q1 q2 q3 c41 c70 C C0 I0 I3 S p0 p3 fr0 e42 e42' m10 hf
    unfold fnF up2
    grind (splits := 40)
end RBG
