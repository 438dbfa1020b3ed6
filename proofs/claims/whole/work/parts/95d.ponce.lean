/-! an INSTRUCTION with elements, behind its beginning, in both -/
section ELD
variable {B b L : Nat} {E : EC} {xs : Nat → Int32} {op st bt : Nat → Nat} {aL aS aO : Nat} {g : MT} {h h1 hr hr1 : CT} {q z p : Nat} {f : Nat → Nat} {ik n nb y t : Nat} {F : Nat → Nat → Nat} {G G0 : Nat → Nat → Int32}
theorem TC.trap (C : TC z h F G) (c ik i : Nat) : TC z (trC z h c ik i) F G := by
  have e : ∀ w, w ≠ z → hI (trC z h c ik i) w = hI h w := fun w hw => by
    unfold trC
    rw [hI_sI, if_neg hw, hI_sI, if_neg hw, hI_sI, if_neg hw]
  have e2 : ∀ j, j ≠ 3 → j ≠ 4 → j ≠ 5 → hI (trC z h c ik i) z j = hI h z j := fun j j3 j4 j5 => by
    unfold trC
    rw [hI_sI, if_pos rfl, ud_n j5, hI_sI, if_pos rfl, ud_n j4, hI_sI, if_pos rfl, ud_n j3]
  refine ⟨fun j hj => ?_, ?_, fun a j a1 a2 a3 => ?_, fun a j a1 a2 a3 => ?_⟩
  · rw [e2 j (by omega) (by omega) (by omega)]; exact C.1 j hj
  · rw [e2 8 (by decide) (by decide) (by decide)]; exact C.2.1
  · rw [e _ (by omega)]; exact C.2.2.1 a j a1 a2 a3
  · rw [e _ (by omega)]; exact C.2.2.2 a j a1 a2 a3
theorem trR_f (hr : CT) (c ik i : Nat) {k : Nat} (hk : k < 37 ∨ 40 < k) : hI (trR B hr c ik i) (B + 187) k = hI hr (B + 187) k := by
  unfold trR
  rw [hI_sI, if_pos rfl, ud_n (by omega), hI_sI, if_pos rfl, ud_n (by omega), hI_sI, if_pos rfl, ud_n (by omega), hI_sI, if_pos rfl, ud_n (by omega)]
theorem trR_o (hr : CT) (c ik i : Nat) {w : Nat} (hw : w ≠ B + 187) : hI (trR B hr c ik i) w = hI hr w := by
  unfold trR
  rw [hI_sI, if_neg hw, hI_sI, if_neg hw, hI_sI, if_neg hw, hI_sI, if_neg hw]
theorem TR.trap (C : TR B y hr F G) (c ik i : Nat) : TR B y (trR B hr c ik i) F G := C.rw (fun k hk => trR_f hr c ik i (by omega)) (fun x x1 x2 => trR_o hr c ik i (by omega))
theorem trR_m (hr : CT) (c ik i : Nat) : MFr B hr (trR B hr c ik i) := ⟨rfl, fun w a _ => ⟨trR_o hr c ik i a, rfl, rfl, rfl⟩, fun k hk => trR_f hr c ik i (by omega), rfl, fun j _ => by rw [trR_o hr c ik i (by omega)], fun _ _ => rfl⟩
theorem trC_n (Q : QZ B q z) (s : SC B h) (c ik i : Nat) : NFr B q z h (trC z h c ik i) := by
  have e : ∀ w, w ≠ z → hI (trC z h c ik i) w = hI h w := fun w hw => by
    unfold trC
    rw [hI_sI, if_neg hw, hI_sI, if_neg hw, hI_sI, if_neg hw]
  exact ⟨rfl, fun w _ b _ => ⟨e w (by omega), rfl, rfl⟩, fun k _ => by rw [e _ (by omega)], fun _ _ => rfl, ⟨by rw [e _ (by omega)]; exact s.1, by rw [e _ (by omega)]; exact s.2⟩, fun j _ => by rw [e _ (by omega)]⟩
def TrapF (B z : Nat) (h hr : CT) (ik : Nat) : Prop := ∃ c i, 1 ≤ c ∧ c ≤ 3 ∧ i < 16 ∧ (hI h z 3 = nI c ∧ hI h z 4 = nI ik ∧ hI h z 5 = nI i) ∧ hI hr (B + 187) 37 = nI c ∧ hI hr (B + 187) 38 = nI ik ∧ hI hr (B + 187) 39 = nI i ∧ hI hr (B + 187) 40 = 1
theorem trap_f {c i : Nat} (c1 : 1 ≤ c) (c2 : c ≤ 3) (hi : i < 16) (h hr : CT) (ik : Nat) : TrapF B z (trC z h c ik i) (trR B hr c ik i) ik := by
  refine ⟨c, i, c1, c2, hi, ⟨?_, ?_, ?_⟩, ?_, ?_, ?_, ?_⟩
  · unfold trC
    rw [hI_sI, if_pos rfl, ud_n (by decide), hI_sI, if_pos rfl, ud_n (by decide), hI_s]
  · unfold trC
    rw [hI_sI, if_pos rfl, ud_n (by decide), hI_s]
  · unfold trC
    rw [hI_s]
  · unfold trR
    rw [hI_sI, if_pos rfl, ud_n (by decide), hI_sI, if_pos rfl, ud_n (by decide), hI_sI, if_pos rfl, ud_n (by decide), hI_s]
  · unfold trR
    rw [hI_sI, if_pos rfl, ud_n (by decide), hI_sI, if_pos rfl, ud_n (by decide), hI_s]
  · unfold trR
    rw [hI_sI, if_pos rfl, ud_n (by decide), hI_s]
  · unfold trR
    rw [hI_s]
/-- what is told of when INSTRUCTIONS BEGAN and ENDED -/
def GOK (G : Nat → Nat → Int32) : Prop := ∀ k, k < 30 → (G 1 k = -1 ∧ G 2 k = -1) ∨ ((∃ v, v < 2 ^ 30 ∧ G 1 k = nI v) ∧ (G 2 k = -1 ∨ ∃ w, w < 2 ^ 30 ∧ G 2 k = nI w))
theorem GOK.e (H : GOK G) {ik v : Nat} (hv : v < 2 ^ 30) (e1 : G 1 ik = nI v) {x : Int32} (hx : x = -1 ∨ ∃ w, w < 2 ^ 30 ∧ x = nI w) : GOK (up2 G 2 ik x) := fun k hk => by
  rw [up2_n (show ¬ ((1 : Nat) = 2 ∧ k = ik) from fun w => absurd w.1 (by decide))]
  by_cases c : k = ik
  · subst c
    rw [up2_s]
    exact Or.inr ⟨⟨v, hv, e1⟩, hx⟩
  · rw [up2_n (fun w => c w.2)]; exact H k hk
theorem GOK.beg (H : GOK G) {ik v : Nat} (hv : v < 2 ^ 30) : GOK (up2 (up2 G 1 ik (nI v)) 2 ik (-1)) := fun k hk => by
  rw [up2_n (show ¬ ((1 : Nat) = 2 ∧ k = ik) from fun w => absurd w.1 (by decide))]
  by_cases c : k = ik
  · subst c
    rw [up2_s, up2_s]
    exact Or.inr ⟨⟨v, hv, rfl⟩, Or.inl rfl⟩
  · rw [up2_n (fun w => c w.2), up2_n (fun w => c w.2), up2_n (fun w => c w.2)]; exact H k hk
theorem fnF_le {w n T : Nat} (hF : ∀ a j, F a j ≤ T) (hw : w ≤ T) (a j : Nat) : fnF F f w n a j ≤ T + 8 := by
  have la := laN_le (f 0)
  have h00 := hF 0 0
  have h12 := hF 0 12
  have h0j := hF 0 j
  have h3j := hF 3 j
  have h4j := hF 4 j
  have haj := hF a j
  clear hF
  unfold fnF
  split
  · split
    · split <;> omega
    · split
      · omega
      · split <;> omega
  · split
    · split <;> omega
    · split
      · split <;> omega
      · omega
/-- the reference's way behind the beginning -/
def refEl (B : Nat) (g : MT) (fO : CT → Nat → Int32 → Int32 → Option CT) (hr : CT) (ik t : Nat) (f : Nat → Nat) : Option CT := bd2 (pX13_elements g hr (B + 187) (nI ik) (nI t)) fun x36 h34 => (lt (hR h34 (B + 187) 28) fun r37 => (nn r37 fun a37 => (tg g a37 20 (ix (gL g a37) (nI ik) (lt (sI h34 a37 (Int32.toNatClampNeg (nI ik)) x36) fun h40 => (if x36 < 0 then pX13_doOne_b74 g fO (B + 187) (nI ik) (nI (f 0)) h40 else if (hI h40 (B + 187) 37) = 0 then bd (pX13_settles g h40 (B + 187) (nI ik) x36) fun h43 => (pX13_doOne_b74 g fO (B + 187) (nI ik) (nI (f 0)) h43) else pX13_doOne_b74 g fO (B + 187) (nI ik) (nI (f 0)) h40))))))
theorem one_b152 {fO : CT → Nat → Int32 → Int32 → Option CT} (S : Sh B g) (hk : f 0 < 27) (h25 : f 0 ≠ 25) (ik : Nat) : pX13_doOne_b152 g fO (B + 187) (nI ik) (nI (f 0)) hr = some (if hI hr (B + 187) 37 = 0 then sI hr (B + 187) 36 (hI hr (B + 187) 36 + 1) else hr) := by
  have q25 : (nI (f 0) = 25) = (f 0 = 25) := q_k (j := 25) hk (by decide)
  unfold pX13_doOne_b152 pX13_doOne_b169
  simp only [q25, h25, if_false]
  split <;> rfl
/-- all of it -/
theorem doEls_both (K : EOK E b L xs op st bt aL aS aO) (S : Sh B g) (Q : QZ B q z) (X : SP B q z op g p f ik n nb y h hr) (hf : FOK f) (he : isEl (f 0)) (hk : ik < 30) (hn : n ≤ 16) (nb1 : 1 ≤ nb) (nb2 : nb ≤ 16) (y1 : 1 ≤ y) (y2 : y ≤ 12) {T : Nat} (C : TC z h F G0) (Ct : TR B y hr F G0) (h8 : F 0 8 = t + 1) (hF : ∀ a j, F a j ≤ T) (hT : T + 1000 < 2 ^ 30) (hJ : ∀ b, F 6 b ≤ F 3 0 + 11) (hu : isMm (f 0) → F 3 0 ≤ t) (hG : GOK G0) (g1 : G0 1 ik = nI t) (g2 : G0 2 ik = -1) (fO : CT → Nat → Int32 → Int32 → Option CT) :
    (∃ h' hr' F' G', pX9_doElements E g h (B + 132) (nI ik) p = some (1, h') ∧ refEl B g fO hr ik t f = some (sI hr' (B + 187) 36 (nI (F' 0 2 + 1))) ∧ SP B q z op g p f ik n nb y h' hr' ∧ TC z h' F' G' ∧ TR B y hr' F' G' ∧ F' 0 8 = t + 1 ∧ (∀ a j, F' a j ≤ T + 230) ∧ (∀ b, F' 6 b ≤ F' 3 0 + 11) ∧ GOK G' ∧ NFr B q z h h' ∧ MFr B hr hr' ∧ ∀ j, j = 3 ∨ j = 4 ∨ j = 5 → hI h' z j = hI h z j)
    ∨ ∃ h' hr' F' G', pX9_doElements E g h (B + 132) (nI ik) p = some (0, h') ∧ refEl B g fO hr ik t f = some hr' ∧ DM B q h' hr' ∧ TC z h' F' G' ∧ TR B y hr' F' G' ∧ (∀ a j, F' a j ≤ T + 230) ∧ GOK G' ∧ TrapF B z h' hr' ik ∧ NFr B q z h h' ∧ MFr B hr hr' := by
  have XX := X
  have t30 : t < 2 ^ 30 := by have := hF 0 8; omega
  have hk31 : ik < 2 ^ 31 := Nat.lt_trans hk (by decide)
  have h25 : f 0 ≠ 25 := by omega
  obtain ⟨R, p2, D, I, M, ⟨e5, e6, e7⟩, ⟨v0, v1, v2⟩, eb, tr0, ov0⟩ := X
  have eG : up2 G0 2 ik (-1) = G0 := up2_id g2
  -- the reference up to its loop
  have fr0 : MFr B hr (sI hr (B + 187) 42 0) := ⟨rfl, fun w a _ => (Eqa.rf hr w).sI a, fun k hk => by rw [hI_sI, if_pos rfl, ud_n (by omega)], rfl, fun i _ => by rw [hI_sI, if_neg (by omega)], fun _ _ => rfl⟩
  have Ct0 : TR B y (sI hr (B + 187) 42 0) F G0 := Ct.rw (fun k hk => by rw [hI_sI, if_pos rfl, ud_n (by omega)]) (fun x x1 x2 => by rw [hI_sI, if_neg (by omega)])
  have QF0 : QFr B hr (sI hr (B + 187) 42 0) := ⟨rfl, fun w a _ _ => (Eqa.rf hr w).sI a, fun k hk => by rw [hI_sI, if_pos rfl, ud_n hk], rfl, fun i _ _ => by rw [hI_sI, if_neg (by omega)], fun _ _ => rfl⟩
  have D0 : DM B q h (sI hr (B + 187) 42 0) := MacD.keep2 (hc := h) (cc := hI hr (B + 192)) (vv := hD hr (B + 193)) (fun j hj => ⟨rfl, rfl⟩) (fun _ _ _ => by rw [hI_sI, if_neg (by omega)]) (fun _ _ _ => rfl) D
  have a0 := (im_at S p2 hk M).1
  have v0' : hI (sI hr (B + 187) 42 0) (B + 192) 0 = nI n := by rw [hI_sI, if_neg (by omega)]; exact v0
  have re : ∀ last h34, pX13_elements_l18 g (B + 187) (nI ik) (nI t) FUEL (nI (f 0)) (-1) 0 (sI hr (B + 187) 42 0) = some (last, h34) → hR h34 = hR hr → refEl B g fO hr ik t f = (if last < 0 then pX13_doOne_b74 g fO (B + 187) (nI ik) (nI (f 0)) (sI h34 (B + 199) ik last) else if (hI (sI h34 (B + 199) ik last) (B + 187) 37) = 0 then bd (pX13_settles g (sI h34 (B + 199) ik last) (B + 187) (nI ik) last) fun h43 => (pX13_doOne_b74 g fO (B + 187) (nI ik) (nI (f 0)) h43) else pX13_doOne_b74 g fO (B + 187) (nI ik) (nI (f 0)) (sI h34 (B + 199) ik last)) := fun last h34 e1 e2 => by
    unfold refEl pX13_elements
    rw [w_tg (st_187 S), a0, w_bd, w_lt, e1, w_bd2, w_lt, e2, pr_187_28 p2, w_nn, w_tg (st_199 S), sl_199 S, w_ix hk (by decide), nI_clamp hk31, w_lt]
  have b74 : ∀ h, pX13_doOne_b74 g fO (B + 187) (nI ik) (nI (f 0)) h = some (if hI h (B + 187) 37 = 0 then sI h (B + 187) 36 (hI h (B + 187) 36 + 1) else h) := fun h => one_b152 S hf.1 h25 ik
  by_cases hn0 : n = 0
  · -- no element
    left
    have l18 : pX13_elements_l18 g (B + 187) (nI ik) (nI t) FUEL (nI (f 0)) (-1) 0 (sI hr (B + 187) 42 0) = some (-1, sI hr (B + 187) 42 0) := by
      have p2' : PtR B (hR (sI hr (B + 187) 42 0)) := p2
      rw [show FUEL = 4999 + 1 from rfl, pX13_elements_l18, pX13_elements_b18, w_lt, pr_187_19 p2', w_nn, w_tg (st_192 S), sl_192 S, w_ixl (show 0 < 1476 by decide) (by decide), cl_l 0 (by decide), v0', hn0, if_pos (show nI 0 ≤ 0 by decide)]
    have Ct1 : TR B y (sI (sI hr (B + 187) 42 0) (B + 199) ik (-1)) F G0 := by
      have := Ct0.ended (k := ik) (x := -1)
      rw [eG] at this
      exact this
    have fr1 : RFr B (sI hr (B + 187) 42 0) (sI (sI hr (B + 187) 42 0) (B + 199) ik (-1)) := (RFr.rf B _).a (by decide) (by decide)
    have X1 : SP B q z op g p f ik n nb y h (sI (sI hr (B + 187) 42 0) (B + 199) ik (-1)) := (XX.e S Q D0 ((XFr.rf R.2.2.2.2.2.2).c Q) QF0).r fr1
    refine ⟨h, _, F, G0, ?_, ?_, X1, C, Ct1, h8, fun a j => Nat.le_trans (hF a j) (Nat.le_add_right _ _), hJ, hG, NFr.rf R.2.2.2.2.2.2, fr0.tr fr1.m, fun _ _ => rfl⟩
    · unfold pX9_doElements
      rw [w_tg (st_132 S), w_lt, R.2.1, w_nn, w_tg R.2.2.2.1.1, e5, hn0, if_pos (show nI 0 = 0 from rfl)]
    · rw [re _ _ l18 rfl, if_pos (by decide), b74, if_pos X1.2.2.2.2.2.2.2.2.1, show hI (sI (sI hr (B + 187) 42 0) (B + 199) ik (-1)) (B + 187) 36 = nI (F 0 2) from Ct1.1 2 (by decide), nI_1]
  · have hn1 : 0 < n := Nat.pos_of_ne_zero hn0
    have de : pX9_doElements E g h (B + 132) (nI ik) p = bd (pX9_lacksRow E g h (B + 132) p) fun x4 => (if x4 = 0 then lt (sI h (B + 132) 10 0) fun h7 => (pX9_doElements_l35 E g (B + 132) (nI ik) p FUEL 0 h7) else bd2 (pX9_trap g h (B + 132) 2 (nI ik) 0) fun x10 h8 => (bz x10 (some (x10, h8)))) := by
      unfold pX9_doElements
      rw [w_tg (st_132 S), w_lt, R.2.1, w_nn, w_tg R.2.2.2.1.1, e5, if_neg (nI_ne0 hn1 (by omega))]
    have lk0 := lacks_both (p := p) K S (XX.e S Q D0 ((XFr.rf R.2.2.2.2.2.2).c Q) QF0) hf hk
    rcases lk0 with ⟨-, c1, c2⟩ | ⟨-, c1, c2⟩
    · -- a ROW is MISSING
      right
      have l18 : pX13_elements_l18 g (B + 187) (nI ik) (nI t) FUEL (nI (f 0)) (-1) 0 (sI hr (B + 187) 42 0) = some (-1, trR B (sI hr (B + 187) 42 0) 2 ik 0) := by
        have p2' : PtR B (hR (sI hr (B + 187) 42 0)) := p2
        have M' : IM B (sI hr (B + 187) 42 0) ik f := QF0.im M
        have tp : pX13_isTrapped g (sI hr (B + 187) 42 0) (B + 187) (nI ik) 0 = some (1, trR B (sI hr (B + 187) 42 0) 2 ik 0) := by
          unfold pX13_isTrapped
          rw [w_tg (st_187 S), (im_at S p2' hk M').1, w_bd, if_pos rfl, c2, w_bd, if_neg (by decide), show pX13_traps g (sI hr (B + 187) 42 0) (B + 187) 2 (nI ik) 0 = some (trR B (sI hr (B + 187) 42 0) 2 ik 0) from r_traps S 2 ik 0, w_bd]
          unfold pX13_isTrapped_b94
          rw [show hI (trR B (sI hr (B + 187) 42 0) 2 ik 0) (B + 187) 37 = nI 2 from by
            unfold trR
            rw [hI_sI, if_pos rfl, ud_n (by decide), hI_sI, if_pos rfl, ud_n (by decide), hI_sI, if_pos rfl, ud_n (by decide), hI_s], if_neg (by decide)]
        rw [show FUEL = 4999 + 1 from rfl, pX13_elements_l18, pX13_elements_b18, w_lt, pr_187_19 p2', w_nn, w_tg (st_192 S), sl_192 S, w_ixl (show 0 < 1476 by decide) (by decide), cl_l 0 (by decide), v0', if_neg (nI_nle hn1 (by omega)), tp, w_bd2, if_neg (by decide)]
      have Ct1 : TR B y (sI (trR B (sI hr (B + 187) 42 0) 2 ik 0) (B + 199) ik (-1)) F G0 := by
        have := (Ct0.trap 2 ik 0).ended (k := ik) (x := -1)
        rw [eG] at this
        exact this
      have fr1 : RFr B (trR B (sI hr (B + 187) 42 0) 2 ik 0) (sI (trR B (sI hr (B + 187) 42 0) 2 ik 0) (B + 199) ik (-1)) := (RFr.rf B _).a (by decide) (by decide)
      have TF := trap_f (B := B) (z := z) (c := 2) (i := 0) (by decide) (by decide) (by decide) h (sI hr (B + 187) 42 0) ik
      obtain ⟨c, i, k1, k2, k3, k4, k5, k6, k7, k8⟩ := TF
      have n37 : ∀ k, hI (sI (trR B (sI hr (B + 187) 42 0) 2 ik 0) (B + 199) ik (-1)) (B + 187) k = hI (trR B (sI hr (B + 187) 42 0) 2 ik 0) (B + 187) k := fun k => by rw [hI_sI, if_neg (by omega)]
      have DMc : DM B q (trC z h 2 ik 0) (sI (trR B (sI hr (B + 187) 42 0) 2 ik 0) (B + 199) ik (-1)) := by
        refine MacD.keep2 (hc := h) (cc := hI hr (B + 192)) (vv := hD hr (B + 193)) (fun j hj => ⟨?_, rfl⟩) (fun j _ _ => ?_) (fun _ _ _ => rfl) D
        · unfold trC
          rw [hI_sI, if_neg (by omega), hI_sI, if_neg (by omega), hI_sI, if_neg (by omega)]
        · rw [hI_sI, if_neg (by omega), trR_o _ _ _ _ (by omega), hI_sI, if_neg (by omega)]
      refine ⟨trC z h 2 ik 0, _, F, G0, ?_, ?_, DMc, C.trap 2 ik 0, Ct1, fun a j => Nat.le_trans (hF a j) (Nat.le_add_right _ _), hG, ⟨c, i, k1, k2, k3, k4, (n37 _).trans k5, (n37 _).trans k6, (n37 _).trans k7, (n37 _).trans k8⟩, trC_n Q R.2.2.2.2.2.2 2 ik 0, fr0.tr ((trR_m _ 2 ik 0).tr fr1.m)⟩
      · rw [de, c1, w_bd, if_neg (by decide), show (2 : Int32) = nI 2 from rfl, show (0 : Int32) = nI 0 from rfl, k_trap S R, w_bd2, w_bz is01_0]
        rfl
      · rw [re _ _ l18 rfl, if_pos (by decide), b74, if_neg (by
          rw [n37, k5]
          exact nI_ne0 (by omega) (by omega))]
    · -- the loop
      have C1 : TC z (sI h (B + 132) 10 0) F (up2 G0 2 ik (-1)) := by
        rw [eG]
        exact C.rw fun w w1 w2 => by rw [hI_sI, if_neg (by omega)]
      have CF1 : CFr B q h (sI h (B + 132) 10 0) := ⟨rfl, fun w _ _ c _ _ => (Eqa.rf h w).sI c, fun j _ => by rw [hI_sI, if_neg (by omega)], fun j hj => by rw [hI_sI, if_pos rfl, ud_n hj], fun k _ => by rw [hI_sI, if_neg (by omega)], fun _ _ => rfl, by rw [hI_sI, if_neg (by omega)]; exact R.2.2.2.2.2.2.1, by rw [hI_sI, if_neg (by omega)]; exact R.2.2.2.2.2.2.2⟩
      have D1 : DM B q (sI h (B + 132) 10 0) (sI hr (B + 187) 42 0) := MacD.keep2 (hc := h) (cc := hI (sI hr (B + 187) 42 0) (B + 192)) (vv := hD (sI hr (B + 187) 42 0) (B + 193)) (fun j hj => ⟨by rw [hI_sI, if_neg (by omega)], rfl⟩) (fun _ _ _ => rfl) (fun _ _ _ => rfl) D0
      have X1 := XX.e S Q D1 CF1 QF0
      have s0 : tkS F 0 = t := by rw [tkS, if_pos rfl, h8]; rfl
      have H0 : ELin B q z op g p f ik n nb y t 0 T 0 (-1) G0 F (sI h (B + 132) 10 0) (sI hr (B + 187) 42 0) := ⟨X1, C1, Ct0, h8, hF, fun hm b => by rw [s0]; have := hJ b; have := hu hm; omega, Or.inl ⟨rfl, rfl⟩, hI_s _ _ _ _, hI_s _ _ _ _, Nat.le_refl 0, fun w => absurd rfl w, fun w => absurd w (Nat.lt_irrefl 0), fun _ => hJ⟩
      have nf1 : NFr B q z h (sI h (B + 132) 10 0) := CF1.nf
      have T16 : T + 13 * n ≤ T + 208 := by omega
      have dl : pX9_doElements E g h (B + 132) (nI ik) p = pX9_doElements_l35 E g (B + 132) (nI ik) p FUEL (nI 0) (sI h (B + 132) 10 0) := by
        have lk := lacks_both (p := p) K S XX hf hk
        rcases lk with ⟨z1, z2, z3⟩ | ⟨z1, z2, z3⟩
        · rw [z2] at c1; cases c1
        · rw [de, z2, w_bd, if_pos rfl, w_lt]; rfl
      rcases els_loop K S Q hf he hk hn nb1 nb2 y1 y2 n 0 FUEL FUEL T 0 (-1) F _ _ (by omega) (by unfold FUEL; omega) (by unfold FUEL; omega) (by omega) (fun _ => c2) H0 with ⟨h2, hr2, F2, pk, last, u1, u2, ⟨X2, C2, Ct2, h82, hF2, hb2, hl2, k1, k2, k3, k4, k5, k6⟩, u4, u5, u6⟩ | ⟨h2, hr2, F2, c, i, last, hc, u1, u2, u3, u4, u5, u6, u7, u8, u9, u10⟩
      · left
        have hl : last = nI (F2 0 10) := by
          rcases hl2 with w | w
          · exact absurd w.1 hn0
          · exact w.2
        have w30 := hF2 0 10
        have XX2 := X2
        obtain ⟨R2, p22, D2, I2, M2, E52, V2, eb2, tr2, ov2⟩ := X2
        obtain ⟨h3, f1, f2, f3⟩ := t_finish K R2.2.2.2.2.1 C2 (w := F2 0 10) (n := pk) I2 (ic_outz S Q I2.1) hf he (by omega) (fun a j => by have := hF2 a j; omega) rfl
        have fr2 : RFr B hr2 (sI hr2 (B + 199) ik last) := (RFr.rf B _).a (by decide) (by decide)
        have Ct3 : TR B y (sI hr2 (B + 199) ik last) F2 (up2 G0 2 ik last) := Ct2.ended
        have X3 := XX2.r fr2
        obtain ⟨hr4, d1, d2, d3⟩ := r_settles S X3.2.1 Ct3 hk X3.2.2.2.2.1 hf he (w := F2 0 10) (n := pk) (T := T + 13 * n) (by omega) k4 w30 hF2 (by omega) (by rw [fr2.2.2.1 42 (by decide) (by decide)]; exact k2)
        have X4 := (X3.r d3).t S Q f3
        have nf := nf1.tr (u4.tr (f3.nf Q R2.2.2.2.2.2.2))
        have mf := fr0.tr (u5.tr (fr2.m.tr d3.m))
        refine ⟨h3, hr4, fnF F2 f (F2 0 10) pk, up2 G0 2 ik last, ?_, ?_, X4, f2, d2, ?_, fun a j => ?_, fun b => ?_, ?_, nf, mf, fun j hj => ?_⟩
        · rw [dl, u1, f1, w_bd]
        · have e37 : hI (sI hr2 (B + 199) ik last) (B + 187) 37 = 0 := X3.2.2.2.2.2.2.2.2.1
          have e37' : hI hr4 (B + 187) 37 = 0 := X4.2.2.2.2.2.2.2.2.1
          rw [re last hr2 u2 (by rw [u5.1]; rfl), if_neg (show ¬ last < 0 by rw [hl]; exact nI_pos (by omega)), if_pos e37]
          rw [hl] at d1 ⊢
          rw [d1, w_bd, b74, if_pos e37', show hI hr4 (B + 187) 36 = nI (fnF F2 f (F2 0 10) pk 0 2) from d2.1 2 (by decide), nI_1]
        · unfold fnF
          rw [if_pos rfl, if_neg (by decide), if_neg (fun w => absurd w.1 (by decide)), if_neg (fun w => absurd w.1 (by decide))]; exact h82
        · have := fnF_le (f := f) (n := pk) hF2 w30 a j
          omega
        · have e6 : fnF F2 f (F2 0 10) pk 6 b = F2 6 b := by
            unfold fnF
            rw [if_neg (by decide), if_neg (by decide), if_neg (by decide)]
          have e3 : fnF F2 f (F2 0 10) pk 3 0 = if 0 = unN (f 0) then F2 0 10 + 1 else F2 3 0 := by
            unfold fnF
            rw [if_neg (by decide), if_pos rfl]
          rw [e6, e3]
          by_cases hm : isMm (f 0)
          · have un0 : unN (f 0) = 0 := by unfold unN; rw [if_pos hm]
            have a1 := hb2 hm b
            have a2 := k5 hn1
            have a3 : tkS F2 n = max (F2 0 8 - 1) (F2 0 10 + 1) := by rw [tkS, if_neg hn0]
            rw [a3, h82] at a1
            rw [un0, if_pos rfl]
            omega
          · have un0 : ¬ 0 = unN (f 0) := by
              unfold unN
              rw [if_neg hm]
              split
              · decide
              · split <;> decide
            rw [if_neg un0]
            exact k6 hm b
        · exact hG.e t30 g1 (Or.inr ⟨_, by omega, hl⟩)
        · rw [f3.2.2 j hj, u6 j hj, hI_sI, if_neg (by omega)]
      · right
        obtain ⟨R2, p22, D2, I2, M2, E52, V2, eb2, tr2, ov2⟩ := u4
        have fr1 : RFr B (trR B hr2 c ik i) (sI (trR B hr2 c ik i) (B + 199) ik last) := (RFr.rf B _).a (by decide) (by decide)
        have Ct3 : TR B y (sI (trR B hr2 c ik i) (B + 199) ik last) F2 (up2 G0 2 ik last) := (u6.trap c ik i).ended
        obtain ⟨c', i', k1, k2, k3, k4, k5, k6, k7, k8⟩ := trap_f (B := B) (z := z) (c := c) (i := i) (by omega) (by omega) u3 h2 hr2 ik
        have n37 : ∀ k, hI (sI (trR B hr2 c ik i) (B + 199) ik last) (B + 187) k = hI (trR B hr2 c ik i) (B + 187) k := fun k => by rw [hI_sI, if_neg (by omega)]
        have n37' : ¬ hI (sI (trR B hr2 c ik i) (B + 199) ik last) (B + 187) 37 = 0 := by
          rw [n37, k5]
          exact nI_ne0 (by omega) (by omega)
        have DMc : DM B q (trC z h2 c ik i) (sI (trR B hr2 c ik i) (B + 199) ik last) := by
          refine MacD.keep2 (hc := h2) (cc := hI hr2 (B + 192)) (vv := hD hr2 (B + 193)) (fun j hj => ⟨?_, rfl⟩) (fun j _ _ => ?_) (fun _ _ _ => rfl) D2
          · unfold trC
            rw [hI_sI, if_neg (by omega), hI_sI, if_neg (by omega), hI_sI, if_neg (by omega)]
          · rw [hI_sI, if_neg (by omega), trR_o _ _ _ _ (by omega)]
        refine ⟨trC z h2 c ik i, _, F2, up2 G0 2 ik last, by rw [dl, u1], ?_, DMc, u5.trap c ik i, Ct3, fun a j => by have := u7 a j; omega, hG.e t30 g1 u8, ⟨c', i', k1, k2, k3, k4, (n37 _).trans k5, (n37 _).trans k6, (n37 _).trans k7, (n37 _).trans k8⟩, nf1.tr (u9.tr (trC_n Q R2.2.2.2.2.2.2 c ik i)), fr0.tr (u10.tr ((trR_m hr2 c ik i).tr fr1.m))⟩
        rw [re last _ u2 (by rw [show hR (trR B hr2 c ik i) = hR hr2 from rfl, u10.1]; rfl), if_neg n37', b74, if_neg n37']
        split <;> rfl
end ELD
