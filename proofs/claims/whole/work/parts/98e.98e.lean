/-! swapGain -/
section SWG
variable {B b L : Nat} {E : EC} {xs : Nat → Int32} {op st bt : Nat → Nat} {aL aS aO : Nat} {g : MT} {h h' h1 h2 hc hr hc' hr' : CT} {q z p pp : Nat} {π ρ : Pg} {k n nb y t T : Nat}
theorem MR.of (H : Rel B op g hc hr) : ∃ pp π, WF π ∧ MR B op g hc hr pp π := by
  obtain ⟨S, p1, p2, r1, r2, r3, r4, r5, r6, r7, r8⟩ := H
  obtain ⟨D, pp, π, e8, n174, wf, PC, PM⟩ := r5
  exact ⟨pp, π, wf, p1, p2, r2, ⟨r8.1, r8.2.1⟩, D, e8, n174, PC, PM⟩
def wAs : List Nat := [0, 130, 132, 133, 134, 135, 136, 137, 145, 146, 147, 148, 149, 150, 151, 152, 153, 154, 155, 156, 157, 158, 159, 160, 161, 162, 163, 164, 165, 166, 167, 168, 169, 170, 171, 174, 175, 176, 177, 178, 179, 180, 181, 182]
def wAsR : List Nat := [187, 192, 193, 194, 195, 196, 197, 198, 199, 200]
theorem wAs_ok : okM wAs = true ∧ okW wAs = true ∧ okN wAsR = true := by decide +kernel
theorem wAs_of : ∀ n, n < 205 → ¬ n ∈ wAs → n ≠ 0 ∧ (n < 145 ∨ 171 < n) ∧ (n < 174 ∨ 182 < n) ∧ (n < 130 ∨ 137 < n ∨ n = 131) := by decide +kernel
theorem wAsR_of : ∀ n, n < 205 → 187 ≤ n → ¬ n ∈ wAsR → n ≠ 187 ∧ (n < 192 ∨ 200 < n) := by decide +kernel
theorem wAs_at {a : Nat} (H : ∀ w ∈ wAs, a ≠ B + w) : a ≠ B ∧ (a < B + 145 ∨ B + 171 < a) ∧ (a < B + 174 ∨ B + 182 < a) ∧ (a < B + 130 ∨ B + 137 < a ∨ a = B + 131) := by
  by_cases c : B ≤ a ∧ a < B + 205
  · have := wAs_of (a - B) (by omega) (fun m => H _ m (by omega))
    omega
  · omega
theorem wAsR_at {a : Nat} (r : RZ B a) (H : ∀ w ∈ wAsR, a ≠ B + w) : a ≠ B + 187 ∧ (a < B + 192 ∨ B + 200 < a) := by
  have r1 := r.1
  have r2 := r.2
  have := wAsR_of (a - B) (by omega) (by omega) (fun m => H _ m (by omega))
  omega
/-- both stand alike after runs aside -/
theorem Rel.asd (H : Rel B op g hc hr) (x : AC B hc hc') (eR : hR hr' = hR hr) (eO : ∀ w, w ≠ B + 187 → (w < B + 192 ∨ B + 200 < w) → Eqa hr hr' w) (eF : ∀ k, ¬ (29 ≤ k ∧ k ≤ 44 ∧ k ≠ 41) → k ≠ 51 → k ≠ 0 → k ≠ 1 → hI hr' (B + 187) k = hI hr (B + 187) k) (eL : hL hr' (B + 187) = hL hr (B + 187)) (ec : ∀ i, i < 1230 → hI hr' (B + 192) i = hI hr (B + 192) i) (evv : ∀ i, i < 820 → hD hr' (B + 193) i = hD hr (B + 193) i) {v : Int32} (ev : hI hr' (B + 187) 0 = v) : Rel B op g (sI hc' B 19 v) hr' := by
  obtain ⟨S, p1, p2, r1, r2, r3, r4, r5, r6, r7, r8⟩ := id H
  obtain ⟨q1, q2, q3, q4, q5, q6, q7, q8, q9⟩ := r1
  have cO : ∀ a, a ≠ B → Eqa hc' (sI hc' B 19 v) a := fun a c => (Eqa.rf hc' a).sI c
  have cB : ∀ k, k ≠ 19 → hI (sI hc' B 19 v) B k = hI hc B k := fun k hk => by rw [hI_sI, if_pos rfl, ud_n hk, (x.2.2.1 B (by omega) (by omega) (by omega)).1]
  have oC : OfC B wAs hc (sI hc' B 19 v) := fun a _ z => by
    obtain ⟨a1, a2, a3, a4⟩ := wAs_at z
    exact (x.2.2.1 a a2 a3 a4).tr (cO a a1)
  have oR : OfR B wAsR hr hr' := fun a r z => by
    obtain ⟨a1, a2⟩ := wAsR_at r z
    exact eO a a1 a2
  have cA : ∀ n, n ≠ 0 → (n < 145 ∨ 171 < n) → (n < 174 ∨ 182 < n) → (n < 130 ∨ 137 < n ∨ n = 131) → Eqa hc (sI hc' B 19 v) (B + n) := fun n n0 n1 n2 n3 => (x.2.2.1 (B + n) (by omega) (by omega) (by omega)).tr (cO _ (by omega))
  refine H.mac oC oR wAs_ok.1 wAs_ok.2.1 wAs_ok.2.2 x.1 (by rw [eR]; exact p2) (fun i _ i2 => ec i (by omega)) (fun i _ i2 => evv i (by omega)) (cB 2 (by decide)) (cB 6 (by decide)) ?_ ⟨r5.1.keep2 (fun j hj => ?_) (fun i _ i2 => ec i (by omega)) (fun i _ i2 => evv i (by omega)), r5.2.keep2 S oC wAs_ok.2.1 ?_ (fun i _ i2 => ec i (by omega))⟩ ?_ ?_
  · refine ⟨?_, ?_, ?_, ?_, ?_, ?_, ?_, ?_, ?_⟩
    · rw [hI_s, ev]
    · rw [cB 2 (by decide), eF 8 (by decide) (by decide) (by decide) (by decide)]; exact q2
    · rw [cB 6 (by decide), eF 21 (by decide) (by decide) (by decide) (by decide)]; exact q3
    · rw [cB 9 (by decide), eF 41 (by decide) (by decide) (by decide) (by decide)]; exact q4
    · rw [cB 10 (by decide), eF 22 (by decide) (by decide) (by decide) (by decide)]; exact q5
    · rw [(cO (B + 130) (by omega)).2.1, x.2.2.2.2 0 (by decide), eL]; exact q6
    · rw [(cO (B + 130) (by omega)).1, x.2.2.2.1 1 (by decide), eF 3 (by decide) (by decide) (by decide) (by decide)]; exact q7
    · rw [(cA 11 (by omega) (by omega) (by omega) (by omega)).1, eF 10 (by decide) (by decide) (by decide) (by decide)]; exact q8
    · rw [(cA 11 (by omega) (by omega) (by omega) (by omega)).1, eF 11 (by decide) (by decide) (by decide) (by decide)]; exact q9
  · have e := cA (13 + j) (by omega) (by omega) (by omega) (by omega)
    rw [show B + 13 + j = B + (13 + j) by omega]
    exact ⟨e.1, e.2.2.1⟩
  · rw [(cA 13 (by omega) (by omega) (by omega) (by omega)).2.2.2]
  · exact r7.keep oC oR (by decide +kernel) (by decide +kernel) (cB 9 (by decide)) (cB 10 (by decide))
  · have k136 : ∀ n, 183 ≤ n → n ≤ 186 → hI (sI hc' B 19 v) (B + n) = hI hc (B + n) := fun n n1 n2 => (cA n (by omega) (by omega) (by omega) (by omega)).1
    refine ⟨by rw [(cO (B + 136) (by omega)).1]; exact x.2.1.1, by rw [(cO (B + 137) (by omega)).1]; exact x.2.1.2, ?_⟩
    rw [k136 183 (by omega) (by omega), k136 184 (by omega) (by omega), k136 185 (by omega) (by omega), k136 186 (by omega) (by omega)]
    exact r8.2.2
/-- the reference's gain, when the two may change places; beside it the class's two runs, wherever it makes them -/
theorem gain_both (K : EOK E b L xs op st bt aL aS aO) (S : Sh B g) (wf : WF π) (M : MR B op g hc hr pp π) (hk : k + 1 < π.1) (dep : depP π k (k + 1) = 0) (why : pX13_whyNoSwap g hr (B + 187) (nI k) = some 0) :
    ∃ v u hc1, v < 2 ^ 30 ∧ is01 u ∧ pX12_trialCycles E g hc B (-1) = some (if u = 0 then nI v else -1, hc1) ∧ AC B hc hc1 ∧
      ∀ hc2, MR B op g hc2 hr pp π → ∃ v2 u2 hc3 hr', v2 < 2 ^ 30 ∧ is01 u2 ∧ pX12_trialCycles E g hc2 B (nI k) = some (if u2 = 0 then nI v2 else -1, hc3) ∧ AC B hc2 hc3 ∧ hR hr' = hR hr ∧ (∀ w, w ≠ B + 187 → (w < B + 192 ∨ B + 200 < w) → Eqa hr hr' w) ∧ (∀ k, ¬ (29 ≤ k ∧ k ≤ 44 ∧ k ≠ 41) → k ≠ 51 → k ≠ 0 → hI hr' (B + 187) k = hI hr (B + 187) k) ∧ hL hr' (B + 187) = hL hr (B + 187) ∧ (∀ i, i < 1230 → hI hr' (B + 192) i = hI hr (B + 192) i) ∧ (∀ i, i < 820 → hD hr' (B + 193) i = hD hr (B + 193) i)
        ∧ ((u = 0 ∧ u2 = 0 ∧ hI hr' (B + 187) 0 = 0 ∧ pX13_gainOf g hr (B + 187) (nI k) = some (nI v - nI v2, hr')) ∨ (¬ (u = 0 ∧ u2 = 0) ∧ hI hr' (B + 187) 0 = 12 ∧ pX13_gainOf g hr (B + 187) (nI k) = some (-1, hr'))) := by
  have h30 := wf.1
  generalize hs : sI (sI hr (B + 187) 0 0) (B + 187) 51 0 = s
  have as : ∀ w, w ≠ B + 187 → Eqa hr s w := fun w c => by rw [← hs]; exact ((Eqa.rf hr w).sI c).sI c
  have sF : ∀ k, k ≠ 51 → k ≠ 0 → hI s (B + 187) k = hI hr (B + 187) k := fun k k1 k2 => by rw [← hs, hI_sI, if_pos rfl, ud_n k1, hI_sI, if_pos rfl, ud_n k2]
  have s51 : hI s (B + 187) 51 = 0 := by rw [← hs, hI_s]
  have s0 : hI s (B + 187) 0 = 0 := by rw [← hs, hI_sI, if_pos rfl, ud_n (by decide), hI_s]
  have sR' : hR s = hR hr := by rw [← hs]; rfl
  have sL' : hL s = hL hr := by rw [← hs]; rfl
  have sD' : hD s = hD hr := by rw [← hs]; rfl
  have s192 : hI s (B + 192) = hI hr (B + 192) := (as _ (by omega)).1
  have MS' : ∀ hc2, MR B op g hc2 hr pp π → MR B op g hc2 s pp π := fun hc2 M2 => by
    obtain ⟨m1, m2, m3, m4, m5, m6, m7, m8, m9⟩ := M2
    exact ⟨m1, by rw [sR']; exact m2, m3, m4, by show MacD _ _ _ _ _ _; rw [s192, sD']; exact m5, m6, m7, m8, by rw [s192]; exact m9⟩
  obtain ⟨hc1, h6, v, u, f1, f2, f3, f4, f5, f6, f7⟩ := aside K S wf (MS' hc M) (by rw [s51]; exact Or.inl rfl) (arg := -1) (Or.inl rfl)
  rw [s51] at f5
  have f5' : hI h6 (B + 187) 51 = u := by rw [f5]; rcases f2 with rfl | rfl <;> decide
  refine ⟨v, u, hc1, f1, f2, f3, f6, fun hc2 M2 => ?_⟩
  obtain ⟨hc3, h9, v2, u2, g1, g2, g3, g4, g5, g6, g7⟩ := aside K S wf ((MS' hc2 M2).r h30 f7) (by rw [f5']; exact f2) (arg := nI k) (Or.inr ⟨k, rfl, hk, dep⟩)
  rw [f5'] at g5
  have ar := f7.tr g7
  have oo := or01 f2 g2
  have gain : pX13_gainOf g hr (B + 187) (nI k) = if hI h9 (B + 187) 51 = 0 then some (nI v - nI v2, h9) else some (-1, sI h9 (B + 187) 0 12) := by
    unfold pX13_gainOf
    rw [w_tg (st_187 S), why, w_bd, w_lt, if_pos (by rw [hI_s]; decide), w_lt, hs, f4, w_bd2, g4, w_bd2]
    by_cases c : hI h9 (B + 187) 51 = 0
    · rw [if_pos c, if_pos c]
    · rw [if_neg c, if_neg c, m_refuse S, w_bd2]
  have ar0 : hI h9 (B + 187) 0 = 0 := by rw [ar.2.2.1 0 (by decide) (by decide), s0]
  by_cases c : u = 0 ∧ u2 = 0
  · have e51 : hI h9 (B + 187) 51 = 0 := by rw [g5]; exact oo.2.mpr c
    refine ⟨v2, u2, hc3, h9, g1, g2, g3, g6, ar.1.trans sR', fun w w1 w2 => (as w w1).tr (ar.2.1 w w1 w2), fun k k1 k2 k3 => (ar.2.2.1 k k1 k2).trans (sF k k2 k3), ar.2.2.2.1.trans (by rw [sL']), fun i hi => (ar.2.2.2.2.1 i hi).trans (by rw [s192]), fun i hi => (ar.2.2.2.2.2 i hi).trans (by rw [sD']), Or.inl ⟨c.1, c.2, ar0, by rw [gain, if_pos e51]⟩⟩
  · have e51 : ¬ hI h9 (B + 187) 51 = 0 := by rw [g5]; exact fun w => c (oo.2.mp w)
    refine ⟨v2, u2, hc3, sI h9 (B + 187) 0 12, g1, g2, g3, g6, ar.1.trans sR', fun w w1 w2 => ((as w w1).tr (ar.2.1 w w1 w2)).sI w1, fun k k1 k2 k3 => by rw [hI_sI, if_pos rfl, ud_n k3]; exact (ar.2.2.1 k k1 k2).trans (sF k k2 k3), ar.2.2.2.1.trans (by rw [sL']), fun i hi => by rw [hI_sI, if_neg (by omega)]; exact (ar.2.2.2.2.1 i hi).trans (by rw [s192]), fun i hi => (ar.2.2.2.2.2 i hi).trans (by rw [sD']), Or.inr ⟨c, by rw [hI_s], by rw [gain, if_neg e51]⟩⟩
theorem C_swapGain (K : EOK E b L xs op st bt aL aS aO) : K_swapGain B E op := by
  intro a g hc hr H
  obtain ⟨S, p1, p2, r1, r2, r3, r4, r5, r6, r7, r8⟩ := id H
  have r192 : hI (sI hr (B + 187) 1 0) (B + 192) = hI hr (B + 192) := by rw [hI_sI, if_neg (by omega)]
  have M0 : MacR B op g hc 13 (sI hr (B + 187) 1 0) 0 := MacR.keep (hr := hr) (hr' := sI hr (B + 187) 1 0) S (W := []) (OfC.rf hc) rfl (by omega) rfl r192 rfl r5
  have p2' : PtR B (hR (sI hr (B + 187) 1 0)) := p2
  obtain ⟨pp, π, e8, n174, wf, PC, PM, ha⟩ := instr_trouble S p1 p2' M0 a
  have h30 := wf.1
  have M : MR B op g hc (sI hr (B + 187) 1 0) pp π := ⟨p1, p2', r2, ⟨r8.1, r8.2.1⟩, M0.1, e8, n174, PC, PM⟩
  have b24 : ∀ x, pX12_swapGain_b24 E g B x hc = some (-1, sI hc B 19 2) := fun x => by unfold pX12_swapGain_b24; rw [k_refuse S]; rfl
  have ref : ∀ x, ¬ x ≤ (0 : Int32) → pX13_whyNoSwap g (sI hr (B + 187) 1 0) (B + 187) a = some x → pX13_swapGain g hr (B + 187) a = some (-1, sI (sI hr (B + 187) 1 0) (B + 187) 0 x) := fun x hx e => by
    unfold pX13_swapGain pX13_gainOf
    rw [w_tg (st_187 S), w_lt, w_tg (st_187 S), e, w_bd, w_lt, hI_s, if_neg hx, w_bd2]
  have n1 : ¬ (1 : Int32) = 0 := by decide
  rcases ha with ⟨t1, t2, -⟩ | ⟨k, hk, rfl, t1, t2⟩
  · refine ⟨-1, _, _, ?_, ref 2 (by decide) ?_, H.stat 2 0⟩
    · simp only [pX12_swapGain, w_tg (st_0 S), t1, w_bd, if_true, b24]
    · unfold pX13_whyNoSwap
      rw [w_tg (st_187 S), t2, w_bd, if_pos rfl]
  have c5 : (hI hc pp 1 - 1 : Int32) = nI (π.1 - 1) := by rw [PC.2.2.2.2.1]; exact pk_sub (a := π.1) (b := 1) (by omega)
  by_cases hk1 : k + 1 < π.1
  · have clsA : ∀ x, pX7_canSwap E g hc pp (nI k) = some x → pX12_swapGain E g hc B (nI k) = (if x = 0 then some (-1, sI hc B 19 9) else bd2 (pX12_trialCycles E g hc B (-1)) fun x18 h16 => (if x18 = (-1) then pX12_swapGain_b71 E g B (nI k) x18 (-1) h16 else bd2 (pX12_trialCycles E g h16 B (nI k)) fun x22 h20 => (pX12_swapGain_b71 E g B (nI k) x18 x22 h20))) := fun x e => by
      simp only [pX12_swapGain, w_tg (st_0 S), t1, w_bd, if_neg n1, w_lt, pc_0_4 p1, w_nn, w_tg (st_13 S), e8, w_tg PC.1, c5, if_pos (show nI k < nI (π.1 - 1) from nI_lt (by omega) (by omega)), e, k_refuse S, w_bd2]
    rcases can_why K S p2' PC PM wf hk1 with ⟨dep, cs, ws⟩ | ⟨cs, ws⟩
    · obtain ⟨v, u, hc1, f1, f2, f3, f4, rest⟩ := gain_both K S wf M hk1 dep ws
      obtain ⟨v2, u2, hc3, hr', g1, g2, g3, g4, g5, g6, g7, g8, g9, g10, g11⟩ := rest hc1 (M.c S f4)
      have eR : hR hr' = hR hr := g5
      have eO : ∀ w, w ≠ B + 187 → (w < B + 192 ∨ B + 200 < w) → Eqa hr hr' w := fun w w1 w2 => ((Eqa.rf hr w).sI w1).tr (g6 w w1 w2)
      have eF : ∀ k, ¬ (29 ≤ k ∧ k ≤ 44 ∧ k ≠ 41) → k ≠ 51 → k ≠ 0 → k ≠ 1 → hI hr' (B + 187) k = hI hr (B + 187) k := fun k k1 k2 k3 k4 => by rw [g7 k k1 k2 k3, hI_sI, if_pos rfl, ud_n k4]
      have ec : ∀ i, i < 1230 → hI hr' (B + 192) i = hI hr (B + 192) i := fun i hi => by rw [g9 i hi, r192]
      have rf : ∀ r, pX13_gainOf g (sI hr (B + 187) 1 0) (B + 187) (nI k) = some (r, hr') → pX13_swapGain g hr (B + 187) (nI k) = some (r, hr') := fun r e => by
        unfold pX13_swapGain
        rw [w_tg (st_187 S), w_lt, e, w_bd2]
      have b71n : ∀ x h, pX12_swapGain_b71 E g B (nI k) x (-1) h = some (-1, sI h B 19 12) := fun x h => by unfold pX12_swapGain_b71; rw [if_pos rfl, k_refuse S, w_bd2]
      have cls0 := clsA 1 cs
      rw [if_neg n1, f3, w_bd2] at cls0
      rcases g11 with ⟨u0, u20, s0, gg⟩ | ⟨nu, s12, gg⟩
      · rw [if_pos u0, if_neg (gok_neg f1), g3, w_bd2, if_pos u20] at cls0
        unfold pX12_swapGain_b71 at cls0
        rw [if_neg (gok_neg g1), k_answer S, w_bd2] at cls0
        exact ⟨_, _, _, cls0, rf _ gg, H.asd (f4.tr g4) eR eO eF g8 ec g10 s0⟩
      · by_cases u0 : u = 0
        · have u20 : ¬ u2 = 0 := fun w => nu ⟨u0, w⟩
          rw [if_pos u0, if_neg (gok_neg f1), g3, w_bd2, if_neg u20, b71n] at cls0
          exact ⟨_, _, _, cls0, rf _ gg, H.asd (f4.tr g4) eR eO eF g8 ec g10 s12⟩
        · rw [if_neg u0, if_pos rfl, b71n] at cls0
          exact ⟨_, _, _, cls0, rf _ gg, H.asd f4 eR eO eF g8 ec g10 s12⟩
    · refine ⟨-1, _, _, ?_, ref 9 (by decide) ws, H.stat 9 0⟩
      have e := clsA 0 cs
      rw [if_pos rfl] at e
      exact e
  · refine ⟨-1, _, _, ?_, ref 2 (by decide) ?_, H.stat 2 0⟩
    · simp only [pX12_swapGain, w_tg (st_0 S), t1, w_bd, if_neg n1, w_lt, pc_0_4 p1, w_nn, w_tg (st_13 S), e8, w_tg PC.1, c5, if_neg (show ¬ nI k < nI (π.1 - 1) from nI_nlt (by omega) (by omega)), b24]
    · unfold pX13_whyNoSwap
      have c2 := m_code S p2' PM wf (show k + 1 < 2 ^ 31 by omega)
      rw [if_neg hk1] at c2
      rw [w_tg (st_187 S), t2, w_bd, if_neg n1, nI_1, c2, w_bd, if_pos rfl]
end SWG
