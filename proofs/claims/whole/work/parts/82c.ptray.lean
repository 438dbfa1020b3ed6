/-! TRAYS -/
/-- a counting loop -/
theorem loopN {σ ρ : Type} {L : Nat → Nat → σ → Option ρ} {N : Nat} {Inv : Nat → σ → Prop} {Post : ρ → Prop} (step : ∀ f j s, j < N → Inv j s → ∃ s', L (f + 1) j s = L f (j + 1) s' ∧ Inv (j + 1) s') (fin : ∀ f s, Inv N s → ∃ r, L (f + 1) N s = some r ∧ Post r) :
    ∀ (d j f : Nat) (s : σ), j + d = N → d < f → Inv j s → ∃ r, L f j s = some r ∧ Post r := by
  intro d
  induction d with
  | zero =>
    intro j f s e1 e2 h
    obtain ⟨f, rfl⟩ : ∃ f', f = f' + 1 := ⟨f - 1, by omega⟩
    obtain rfl : j = N := by omega
    exact fin f s h
  | succ d ih =>
    intro j f s e1 e2 h
    obtain ⟨f, rfl⟩ : ∃ f', f = f' + 1 := ⟨f - 1, by omega⟩
    obtain ⟨s', e, h'⟩ := step f j s (by omega) h
    obtain ⟨r, q1, q2⟩ := ih (j + 1) f s' (by omega) (by omega) h'
    exact ⟨r, e.trans q1, q2⟩
def But1 (a : Nat) (h h' : CT) : Prop := hR h' = hR h ∧ ∀ x, x ≠ a → Eqa h h' x
theorem But1.rf (a : Nat) (h : CT) : But1 a h h := ⟨rfl, fun x _ => Eqa.rf h x⟩
theorem But1.stL {a k : Nat} {x : Int64} {h h1 : CT} (H : But1 a h h1) : But1 a h (sL h1 a k x) := ⟨H.1, fun z hz => (H.2 z hz).sL hz⟩
theorem But1.stI {a k : Nat} {x : Int32} {h h1 : CT} (H : But1 a h h1) : But1 a h (sI h1 a k x) := ⟨H.1, fun z hz => (H.2 z hz).sI hz⟩
theorem But1.stD {a k : Nat} {x : UInt64} {h h1 : CT} (H : But1 a h h1) : But1 a h (sD h1 a k x) := ⟨H.1, fun z hz => (H.2 z hz).sD hz⟩
theorem fillL {g : MT} {h : CT} {a n : Nat} {v : Int64} (T : gT g a = 21) (l : gL g a = n) (hn : n ≤ 4000) : ∃ h', pJ7_fill_d0a16 g h a v = some h' ∧ But1 a h h' ∧ hI h' = hI h ∧ ∀ i, i < n → hL h' a i = v := by
  have := loopN (L := fun f j s => pJ7_fill_d0a16_l6 g a v f (nI j) (nI n) s) (N := n) (Inv := fun j s => But1 a h s ∧ hI s = hI h ∧ ∀ i, i < j → hL s a i = v) (Post := fun s => But1 a h s ∧ hI s = hI h ∧ ∀ i, i < n → hL s a i = v) (fun f j s hj H => by
    refine ⟨sL s a j v, ?_, H.1.stL, H.2.1, fun i hi => ?_⟩
    · show pJ7_fill_d0a16_l6 g a v (f + 1) (nI j) (nI n) s = _
      rw [pJ7_fill_d0a16_l6, pJ7_fill_d0a16_b6, if_neg (nI_ge hj (by omega)), w_tg T, l, w_ix hj (by omega), w_lt, w_lt, nI_clamp (by omega), nI_1]
    · rw [hL_sL, if_pos rfl]
      by_cases e : i = j
      · rw [e, ud_s]
      · rw [ud_n e]; exact H.2.2 i (by omega)) (fun f s H => ⟨s, by
    show pJ7_fill_d0a16_l6 g a v (f + 1) (nI n) (nI n) s = _
    rw [pJ7_fill_d0a16_l6, pJ7_fill_d0a16_b6, if_pos (nI_le (Nat.le_refl n) (by omega))], H⟩) n 0 FUEL h (by omega) (by unfold FUEL; omega) ⟨But1.rf a h, rfl, fun i hi => by omega⟩
  obtain ⟨r, q1, q2, q3, q4⟩ := this
  refine ⟨r, ?_, q2, q3, q4⟩
  unfold pJ7_fill_d0a16
  rw [w_tg T, l, w_lt]
  exact q1
theorem fillI {g : MT} {h : CT} {a n : Nat} {v : Int32} (T : gT g a = 20) (l : gL g a = n) (hn : n ≤ 4000) : ∃ h', pJ7_fill_53178 g h a v = some h' ∧ But1 a h h' ∧ hD h' = hD h ∧ hL h' = hL h ∧ ∀ i, i < n → hI h' a i = v := by
  have := loopN (L := fun f j s => pJ7_fill_53178_l5 g a v f (nI j) (nI n) s) (N := n) (Inv := fun j s => But1 a h s ∧ hD s = hD h ∧ hL s = hL h ∧ ∀ i, i < j → hI s a i = v) (Post := fun s => But1 a h s ∧ hD s = hD h ∧ hL s = hL h ∧ ∀ i, i < n → hI s a i = v) (fun f j s hj H => by
    refine ⟨sI s a j v, ?_, H.1.stI, H.2.1, H.2.2.1, fun i hi => ?_⟩
    · show pJ7_fill_53178_l5 g a v (f + 1) (nI j) (nI n) s = _
      rw [pJ7_fill_53178_l5, pJ7_fill_53178_b5, if_neg (nI_ge hj (by omega)), w_tg T, l, w_ix hj (by omega), w_lt, w_lt, nI_clamp (by omega), nI_1]
    · rw [hI_sI, if_pos rfl]
      by_cases e : i = j
      · rw [e, ud_s]
      · rw [ud_n e]; exact H.2.2.2 i (by omega)) (fun f s H => ⟨s, by
    show pJ7_fill_53178_l5 g a v (f + 1) (nI n) (nI n) s = _
    rw [pJ7_fill_53178_l5, pJ7_fill_53178_b5, if_pos (nI_le (Nat.le_refl n) (by omega))], H⟩) n 0 FUEL h (by omega) (by unfold FUEL; omega) ⟨But1.rf a h, rfl, rfl, fun i hi => by omega⟩
  obtain ⟨r, q1, q2, q3, q4, q5⟩ := this
  refine ⟨r, ?_, q2, q3, q4, q5⟩
  unfold pJ7_fill_53178
  rw [w_tg T, l, w_lt]
  exact q1
section TRAY
variable {B : Nat} {E : EC} {op : Nat → Nat} {g : MT} {hc hr hc' hr' : CT}
def TrayA (g : MT) (r : Nat → Nat → Option Nat) (a : Nat) : Prop := gT g a = 10 ∧ r a 3 = some (a + 1) ∧ gT g (a + 1) = 21 ∧ gL g (a + 1) = 60
theorem trayA (S : Sh B g) (p : PtC B (hR hc)) {t : Nat} (ht : t < 4) : hR hc (B + 1) t = some (B + 2 + 2 * t) ∧ TrayA g (hR hc) (B + 2 + 2 * t) := by
  match t, ht with
  | 0, _ => exact ⟨pc_1_0 p, st_2 S, pc_2_3 p, st_3 S, sl_3 S⟩
  | 1, _ => exact ⟨pc_1_1 p, st_4 S, pc_4_3 p, st_5 S, sl_5 S⟩
  | 2, _ => exact ⟨pc_1_2 p, st_6 S, pc_6_3 p, st_7 S, sl_7 S⟩
  | 3, _ => exact ⟨pc_1_3 p, st_8 S, pc_8_3 p, st_9 S, sl_9 S⟩
theorem Rel.tra {W W' : List Nat} (H : Rel B op g hc hr) (o : OfC B W hc hc') (o' : OfR B W' hr hr') (hW : W.all (fun w => w == 0 || (2 ≤ w && w ≤ 9) || (183 ≤ w && w ≤ 186)) = true) (hW' : W'.all (fun w => 187 ≤ w && w ≤ 190) = true) (pC : hR hc' = hR hc) (pR : hR hr' = hR hr)
    (e2 : hI hc' B 2 = hI hc B 2) (e6 : hI hc' B 6 = hI hc B 6) (e9 : hI hc' B 9 = hI hc B 9) (e10 : hI hc' B 10 = hI hc B 10) (nO : ObjR B hc' hr') (nT : TraR B hc' hr') (nS : ScrR B hc') : Rel B op g hc' hr' := by
  obtain ⟨S, p1, p2, r1, r2, r3, r4, r5, r6, r7, r8⟩ := H
  have cW : ∀ w ∈ W, w = 0 ∨ (2 ≤ w ∧ w ≤ 9) ∨ (183 ≤ w ∧ w ≤ 186) := fun w hw => by
    have := List.all_eq_true.mp hW w hw
    simpa [or_assoc] using this
  have cR : ∀ w ∈ W', 187 ≤ w ∧ w ≤ 190 := fun w hw => by
    have := List.all_eq_true.mp hW' w hw
    simpa using this
  have d5 := o'.at 192 (by omega) (by omega) (fun z => by have := cR _ z; omega)
  have d6 := o'.at 193 (by omega) (by omega) (fun z => by have := cR _ z; omega)
  have aC : ∀ f : Nat → Bool, (∀ w, (w = 0 ∨ (2 ≤ w ∧ w ≤ 9) ∨ (183 ≤ w ∧ w ≤ 186)) → f w = true) → W.all f = true := fun f hf => List.all_eq_true.mpr fun w hw => hf w (cW w hw)
  have aR : ∀ f : Nat → Bool, (∀ w, (187 ≤ w ∧ w ≤ 190) → f w = true) → W'.all f = true := fun f hf => List.all_eq_true.mpr fun w hw => hf w (cR w hw)
  have hw2 : okW W = true := by
    refine List.all_eq_true.mpr fun w hw => ?_
    have key : ∀ w, w < 187 → (w = 0 ∨ (2 ≤ w ∧ w ≤ 9) ∨ (183 ≤ w ∧ w ≤ 186)) → (match stg[w]? with | some q => (q.1 != 6 && q.1 != 25 && q.1 != 2) || w == 174 || w == 175 | none => false) = true := by decide +kernel
    have := cW w hw
    exact key w (by omega) this
  refine ⟨S, by rw [pC]; exact p1, by rw [pR]; exact p2, nO, r2.keep o (fun hm => by have := cW _ hm; omega), nT, r4.keep o o' (fun hm => by have := cW _ hm; omega) (fun hm => by have := cR _ hm; omega) e2, r5.keep S o hw2 (by omega) (aC _ fun w hw => ?_) d5.1 d6.2.2.1, r6.keep S o hw2 (aC _ fun w hw => ?_) d5.1 d6.2.2.1 e6, r7.keep o o' (aC _ fun w hw => ?_) (aR _ fun w hw => ?_) e9 e10, nS⟩ <;> simp only [Bool.or_eq_true, decide_eq_true_eq] <;> omega
theorem ScrR.same (H : ScrR B hc) (e : ∀ n, (n = 136 ∨ n = 137 ∨ n = 183 ∨ n = 184 ∨ n = 185 ∨ n = 186) → hI hc' (B + n) = hI hc (B + n)) : ScrR B hc' := by
  unfold ScrR
  rw [e 136 (by omega), e 137 (by omega), e 183 (by omega), e 184 (by omega), e 185 (by omega), e 186 (by omega)]
  exact H
theorem m_tray_l (S : Sh B g) (p2 : PtR B (hR hr)) {t m : Nat} {p : Int32} (ht : t < 4) (hm : m ≤ 60) : ∃ h', pX13_tray_l74 g (B + 187) (nI t) p (nI m) FUEL 0 hr = some (1, h') ∧ But1 (B + 190) hr h' ∧ hI h' = hI hr ∧ (∀ i, 60 * t ≤ i → i < 60 * t + m → hL h' (B + 190) i = 0) ∧ ∀ i, (i < 60 * t ∨ 60 * t + m ≤ i) → hL h' (B + 190) i = hL hr (B + 190) i := by
  have := loopN (L := fun f j s => pX13_tray_l74 g (B + 187) (nI t) p (nI m) f (nI j) s) (N := m) (Inv := fun j s => But1 (B + 190) hr s ∧ hI s = hI hr ∧ (∀ i, 60 * t ≤ i → i < 60 * t + j → hL s (B + 190) i = 0) ∧ ∀ i, (i < 60 * t ∨ 60 * t + m ≤ i) → hL s (B + 190) i = hL hr (B + 190) i)
    (Post := fun r => r.1 = 1 ∧ But1 (B + 190) hr r.2 ∧ hI r.2 = hI hr ∧ (∀ i, 60 * t ≤ i → i < 60 * t + m → hL r.2 (B + 190) i = 0) ∧ ∀ i, (i < 60 * t ∨ 60 * t + m ≤ i) → hL r.2 (B + 190) i = hL hr (B + 190) i) (fun f j s hj H => by
    have e6 : hR s (B + 187) 6 = some (B + 190) := by rw [H.1.1]; exact pr_187_6 p2
    have ei : (60 * nI t + nI j : Int32) = nI (60 * t + j) := by rw [show (60 : Int32) = nI 60 from rfl, pk_mul, nI_add]
    refine ⟨sL s (B + 190) (60 * t + j) 0, ?_, H.1.stL, H.2.1, fun i h1 h2 => ?_, fun i hi => ?_⟩
    · show pX13_tray_l74 g (B + 187) (nI t) p (nI m) (f + 1) (nI j) s = _
      rw [pX13_tray_l74, pX13_tray_b74, if_neg (nI_ge hj (by omega)), w_lt, e6, w_nn, w_tg (st_190 S), sl_190 S, ei, w_ix (by omega) (by decide), w_lt, w_lt, nI_clamp (by omega), nI_1]
    · rw [hL_sL, if_pos rfl]
      by_cases e : i = 60 * t + j
      · rw [e, ud_s]
      · rw [ud_n e]; exact H.2.2.1 i h1 (by omega)
    · rw [hL_sL, if_pos rfl, ud_n (by omega)]; exact H.2.2.2 i hi) (fun f s H => ⟨(1, s), by
    show pX13_tray_l74 g (B + 187) (nI t) p (nI m) (f + 1) (nI m) s = _
    rw [pX13_tray_l74, pX13_tray_b74, if_pos (nI_le (Nat.le_refl m) (by omega))], rfl, H⟩) m 0 FUEL hr (by omega) (by unfold FUEL; omega) ⟨But1.rf _ hr, rfl, fun i h1 h2 => by omega, fun i _ => rfl⟩
  obtain ⟨⟨x, h'⟩, q1, rfl, q2⟩ := this
  exact ⟨h', q1, q2⟩
end TRAY
