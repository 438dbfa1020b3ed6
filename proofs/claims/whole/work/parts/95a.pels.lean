/-! one element after the other: what stands through it, TRAPS at an element -/
section ELL
variable {B b L : Nat} {E : EC} {xs : Nat → Int32} {op st bt : Nat → Nat} {aL aS aO : Nat} {g : MT} {h h' h1 h2 hr hr' hr1 : CT} {q z p : Nat} {f : Nat → Nat} {ik n nb y : Nat}
/-- the class's cells that an INSTRUCTION writes -/
def NFr (B q z : Nat) (h h' : CT) : Prop := hR h' = hR h ∧ (∀ w, (w < q ∨ q + 26 < w) → (w < z ∨ z + 6 < w) → (w < B + 130 ∨ B + 137 < w ∨ w = B + 131) → hI h' w = hI h w ∧ hL h' w = hL h w ∧ hD h' w = hD h w) ∧ (∀ k, k ≠ 4 → hI h' (B + 130) k = hI h (B + 130) k) ∧ (∀ k, k ≠ 3 → hL h' (B + 130) k = hL h (B + 130) k) ∧ SC B h' ∧ ∀ j, j ≠ 10 → hI h' (B + 132) j = hI h (B + 132) j
def MFr (B : Nat) (h h' : CT) : Prop := hR h' = hR h ∧ (∀ w, w ≠ B + 187 → (w < B + 192 ∨ B + 200 < w) → Eqa h h' w) ∧ (∀ k, ¬ (29 ≤ k ∧ k ≤ 44 ∧ k ≠ 41) → hI h' (B + 187) k = hI h (B + 187) k) ∧ hL h' (B + 187) = hL h (B + 187) ∧ (∀ i, 5 ≤ i → hI h' (B + 192) i = hI h (B + 192) i) ∧ ∀ i, 164 ≤ i → hD h' (B + 193) i = hD h (B + 193) i
theorem NFr.rf (s : SC B h) : NFr B q z h h := ⟨rfl, fun _ _ _ _ => ⟨rfl, rfl, rfl⟩, fun _ _ => rfl, fun _ _ => rfl, s, fun _ _ => rfl⟩
theorem MFr.rf (B : Nat) (h : CT) : MFr B h h := ⟨rfl, fun w _ _ => Eqa.rf h w, fun _ _ => rfl, rfl, fun _ _ => rfl, fun _ _ => rfl⟩
theorem NFr.tr (x : NFr B q z h h1) (u : NFr B q z h1 h2) : NFr B q z h h2 := ⟨u.1.trans x.1, fun w a b c => ⟨(u.2.1 w a b c).1.trans (x.2.1 w a b c).1, (u.2.1 w a b c).2.1.trans (x.2.1 w a b c).2.1, (u.2.1 w a b c).2.2.trans (x.2.1 w a b c).2.2⟩, fun k hk => (u.2.2.1 k hk).trans (x.2.2.1 k hk), fun k hk => (u.2.2.2.1 k hk).trans (x.2.2.2.1 k hk), u.2.2.2.2.1, fun j hj => (u.2.2.2.2.2 j hj).trans (x.2.2.2.2.2 j hj)⟩
theorem MFr.tr (x : MFr B h h1) (u : MFr B h1 h2) : MFr B h h2 := ⟨u.1.trans x.1, fun w a b => (x.2.1 w a b).tr (u.2.1 w a b), fun k a => (u.2.2.1 k a).trans (x.2.2.1 k a), u.2.2.2.1.trans x.2.2.2.1, fun i a => (u.2.2.2.2.1 i a).trans (x.2.2.2.2.1 i a), fun i a => (u.2.2.2.2.2 i a).trans (x.2.2.2.2.2 i a)⟩
theorem CFr.nf (x : CFr B q h h1) : NFr B q z h h1 := ⟨x.1, fun w a _ c => by have e := x.2.1 w a (by omega) (by omega) (by omega) (by omega); exact ⟨e.1, e.2.1, e.2.2.1⟩, x.2.2.2.2.1, x.2.2.2.2.2.1, x.2.2.2.2.2.2, x.2.2.2.1⟩
theorem TFr.nf (x : TFr z h h1) (Q : QZ B q z) (s : SC B h) : NFr B q z h h1 := ⟨x.1, fun w _ b _ => ⟨(x.2.1 w b).1, (x.2.1 w b).2.1, (x.2.1 w b).2.2.1⟩, fun k _ => by rw [(x.2.1 (B + 130) (by omega)).1], fun k _ => by rw [(x.2.1 (B + 130) (by omega)).2.1], ⟨by rw [(x.2.1 (B + 136) (by omega)).1]; exact s.1, by rw [(x.2.1 (B + 137) (by omega)).1]; exact s.2⟩, fun j _ => by rw [(x.2.1 (B + 132) (by omega)).1]⟩
theorem RFr.m (x : RFr B h h1) : MFr B h h1 := ⟨x.1, fun w a b => x.2.1 w a (by omega), fun k a => x.2.2.1 k (by omega) (by omega), x.2.2.2, fun i _ => by rw [(x.2.1 (B + 192) (by omega) (by omega)).1], fun i _ => by rw [(x.2.1 (B + 193) (by omega) (by omega)).2.2.1]⟩
theorem QFr.m (x : QFr B h h1) : MFr B h h1 := ⟨x.1, fun w a b => x.2.1 w a (by omega) (by omega), fun k a => x.2.2.1 k (by omega), x.2.2.2.1, fun i a => x.2.2.2.2.1 i (by omega) (by omega), x.2.2.2.2.2⟩
theorem XFr.zz (x : XFr B h h1) (Q : QZ B q z) {w : Nat} (w1 : z ≤ w) (w2 : w ≤ z + 6) : hI h1 w = hI h w := (x.2.1 w (by omega) (by omega) (by omega)).1
theorem CFr.zz (x : CFr B q h h1) (Q : QZ B q z) {w : Nat} (w1 : z ≤ w) (w2 : w ≤ z + 6) : hI h1 w = hI h w := (x.2.1 w (by omega) (by omega) (by omega) (by omega) (by omega)).1
theorem QFr.t (x : QFr B h h1) {w : Nat} (w1 : B + 194 ≤ w) (w2 : w ≤ B + 199) : hI h1 w = hI h w := (x.2.1 w (by omega) (by omega) (by omega)).1
theorem QFr.fl (x : QFr B h h1) {k : Nat} (hk : (29 ≤ k ∧ k ≤ 32) ∨ (34 ≤ k ∧ k ≤ 36)) : hI h1 (B + 187) k = hI h (B + 187) k := x.2.2.1 k (by omega)
theorem TFr.br (x : TFr z h h1) (Q : QZ B q z) : hI h1 (B + 132) = hI h (B + 132) := (x.2.1 (B + 132) (by omega)).1
theorem XFr.br (x : XFr B h h1) : hI h1 (B + 132) = hI h (B + 132) := (x.2.1 (B + 132) (by omega) (by omega) (by omega)).1
theorem ic_outz (S : Sh B g) (Q : QZ B q z) (T : gT g p = 2) : p < z ∨ z + 6 < p := by have := ic_out S T; omega
/-- what stands through all elements -/
def SP (B q z : Nat) (op : Nat → Nat) (g : MT) (p : Nat) (f : Nat → Nat) (ik n nb y : Nat) (h hr : CT) : Prop := RunC B q z g h ∧ PtR B (hR hr) ∧ DM B q h hr ∧ IC op g h p f ∧ IM B hr ik f ∧ (hI h q 5 = nI n ∧ hI h q 6 = nI nb ∧ hI h q 7 = nI y) ∧ (hI hr (B + 192) 0 = nI n ∧ hI hr (B + 192) 1 = nI nb ∧ hI hr (B + 192) 2 = nI y) ∧ hI hr (B + 187) 33 = hI h (B + 132) 9 ∧ hI hr (B + 187) 37 = 0 ∧ hI hr (B + 187) 40 = 0
theorem TFr.run (x : TFr z h h1) (Q : QZ B q z) (R : RunC B q z g h) : RunC B q z g h1 := R.keep x.1 (x.2.1 (B + 131) (by omega)).2.2.1 ⟨by rw [(x.2.1 (B + 136) (by omega)).1]; exact R.2.2.2.2.2.2.1, by rw [(x.2.1 (B + 137) (by omega)).1]; exact R.2.2.2.2.2.2.2⟩
theorem TFr.dm (x : TFr z h h1) (Q : QZ B q z) (D : DM B q h hr) : DM B q h1 hr := MacD.keep2 (hc := h) (cc := hI hr (B + 192)) (vv := hD hr (B + 193)) (fun j hj => ⟨(x.2.1 (q + j) (by omega)).1, (x.2.1 (q + j) (by omega)).2.2.1⟩) (fun _ _ _ => rfl) (fun _ _ _ => rfl) D
theorem RFr.dm (x : RFr B hr hr1) (D : DM B q h hr) : DM B q h hr1 := MacD.keep2 (hc := h) (cc := hI hr (B + 192)) (vv := hD hr (B + 193)) (fun j hj => ⟨rfl, rfl⟩) (fun _ _ _ => by rw [(x.2.1 (B + 192) (by omega) (by omega)).1]) (fun _ _ _ => by rw [(x.2.1 (B + 193) (by omega) (by omega)).2.2.1]) D
theorem SP.t (X : SP B q z op g p f ik n nb y h hr) (S : Sh B g) (Q : QZ B q z) (x : TFr z h h1) : SP B q z op g p f ik n nb y h1 hr := by
  obtain ⟨a1, a2, a3, a4, a5, a6, a7, a8, a9⟩ := X
  have hp := ic_out S a4.1
  have e : hI h1 q = hI h q := (x.2.1 q (by omega)).1
  refine ⟨x.run Q a1, a2, x.dm Q a3, a4.fr x (by omega), a5, by rw [e]; exact a6, a7, by rw [(x.2.1 (B + 132) (by omega)).1]; exact a8, a9⟩
theorem SP.x (X : SP B q z op g p f ik n nb y h hr) (S : Sh B g) (Q : QZ B q z) (x : XFr B h h1) : SP B q z op g p f ik n nb y h1 hr := by
  obtain ⟨a1, a2, a3, a4, a5, a6, a7, a8, a9⟩ := X
  have hp := ic_out S a4.1
  have e : hI h1 q = hI h q := (x.2.1 q (by omega) (by omega) (by omega)).1
  refine ⟨x.run a1, a2, x.dm Q a3, x.ic a4 hp, a5, by rw [e]; exact a6, a7, by rw [(x.2.1 (B + 132) (by omega) (by omega) (by omega)).1]; exact a8, a9⟩
theorem SP.r (X : SP B q z op g p f ik n nb y h hr) (x : RFr B hr hr1) : SP B q z op g p f ik n nb y h hr1 := by
  obtain ⟨a1, a2, a3, a4, a5, a6, a7, a8, a9⟩ := X
  have e : hI hr1 (B + 192) = hI hr (B + 192) := (x.2.1 (B + 192) (by omega) (by omega)).1
  refine ⟨a1, by rw [x.1]; exact a2, x.dm a3, a4, a5.fr x, a6, by rw [e]; exact a7, by rw [x.2.2.1 33 (by decide) (by decide)]; exact a8, by rw [x.2.2.1 37 (by decide) (by decide), x.2.2.1 40 (by decide) (by decide)]; exact a9⟩
theorem SP.e (X : SP B q z op g p f ik n nb y h hr) (S : Sh B g) (Q : QZ B q z) (D : DM B q h1 hr1) (x : CFr B q h h1) (u : QFr B hr hr1) : SP B q z op g p f ik n nb y h1 hr1 := by
  obtain ⟨a1, a2, a3, a4, a5, a6, a7, a8, a9⟩ := X
  have hp := ic_out S a4.1
  refine ⟨x.run Q a1, by rw [u.1]; exact a2, D, x.ic Q a4 hp, u.im a5, ?_, ?_, ?_, ?_⟩
  · rw [x.2.2.1 5 (by decide), x.2.2.1 6 (by decide), x.2.2.1 7 (by decide)]; exact a6
  · rw [u.2.2.2.2.1 0 (by decide) (by decide), u.2.2.2.2.1 1 (by decide) (by decide), u.2.2.2.2.1 2 (by decide) (by decide)]; exact a7
  · rw [u.2.2.1 33 (by decide), x.2.2.2.1 9 (by decide)]; exact a8
  · rw [u.2.2.1 37 (by decide), u.2.2.1 40 (by decide)]; exact a9
/-- the TRAP is told -/
def trC (z : Nat) (h : CT) (c ik i : Nat) : CT := sI (sI (sI h z 3 (nI c)) z 4 (nI ik)) z 5 (nI i)
def trR (B : Nat) (h : CT) (c ik i : Nat) : CT := sI (sI (sI (sI h (B + 187) 37 (nI c)) (B + 187) 38 (nI ik)) (B + 187) 39 (nI i)) (B + 187) 40 1
theorem k_trap (S : Sh B g) (R : RunC B q z g h) (c ik i : Nat) : pX9_trap g h (B + 132) (nI c) (nI ik) (nI i) = some (0, trC z h c ik i) := by
  unfold pX9_trap
  rw [w_tg (st_132 S), w_lt, R.2.2.1, w_nn, w_tg R.2.2.2.2.1.1, w_lt, w_lt, hR_sI, R.2.2.1, w_nn, w_tg R.2.2.2.2.1.1, w_lt, w_lt, hR_sI, hR_sI, R.2.2.1, w_nn, w_tg R.2.2.2.2.1.1, w_lt]
  rfl
theorem r_traps (S : Sh B g) (c ik i : Nat) : pX13_traps g hr (B + 187) (nI c) (nI ik) (nI i) = some (trR B hr c ik i) := by
  unfold pX13_traps
  rw [w_tg (st_187 S), w_lt, w_lt, w_lt, w_lt]
  rfl
def PLC (B : Nat) (g : MT) (hr : CT) (ik i : Nat) (f : Nat → Nat) (nb : Nat) (pl : Int32) (k : Nat) : Prop := isMm (f 0) → ∃ w, pl = nI w ∧ w < 64 ∧ pX13_placeOf g hr (B + 187) (nI ik) (nI i) = some (nI w) ∧ k = w % nb
theorem PLC.get {i k : Nat} {pl : Int32} (x : PLC B g hr ik i f nb pl k) (hm : isMm (f 0)) : ∃ w, pl = nI w ∧ w < 64 ∧ pX13_placeOf g hr (B + 187) (nI ik) (nI i) = some (nI w) ∧ k = w % nb := x hm
/-- whether an element TRAPS, in both; if not, its place and its BANK -/
theorem el_prep (K : EOK E b L xs op st bt aL aS aO) (S : Sh B g) (Q : QZ B q z) (X : SP B q z op g p f ik n nb y h hr) (hf : FOK f) (he : isEl (f 0)) (hk : ik < 30) {i : Nat} (hin : i < n) (hn : n ≤ 16) (nb1 : 1 ≤ nb) (nb2 : nb ≤ 16) (hmiss : i = 0 → pX13_missesRow g hr (B + 187) (nI ik) = some 0) (k35 : Int32 → CT → Option (Int32 × CT)) :
    (∃ h1 pl bk k, pX9_doElements_b35 E g (B + 132) (nI ik) p k35 (nI i) h = pX9_doElements_b130 E g (B + 132) (nI ik) p k35 (nI i) pl bk h1 ∧ XFr B h h1 ∧ (if isMm (f 0) then bk = nI k ∧ k < 16 else bk = -1) ∧ PLC B g hr ik i f nb pl k ∧ pX13_isTrapped g hr (B + 187) (nI ik) (nI i) = some (0, hr))
    ∨ ∃ h1 c, (c = 1 ∨ c = 3) ∧ pX9_doElements_b35 E g (B + 132) (nI ik) p k35 (nI i) h = some (0, trC z h1 c ik i) ∧ XFr B h h1 ∧ pX13_isTrapped g hr (B + 187) (nI ik) (nI i) = some (1, trR B hr c ik i) := by
  have XX := X
  obtain ⟨R, p2, D, I, M, ⟨e5, e6, e7⟩, ⟨v0, v1, v2⟩, eb, tr0, ov0⟩ := X
  have hp := ic_out S I.1
  have T60 := k_tag K hf.1
  have u4 := unN_lt (f 0)
  have hi : i < 16 := by omega
  obtain ⟨a0, a1, a2, a3, a4, a5, a6, a7⟩ := im_at S p2 hk M
  obtain ⟨-, -, -, -, m5, m6, -⟩ := kt_m (f 0) hf.1
  have uq : (nI (unN (f 0)) = 0) = (unN (f 0) = 0) := propext (nI_eq (b := 0) (by omega) (by decide))
  have un0 : unN (f 0) = 0 ↔ isMm (f 0) := by
    unfold unN
    constructor
    · intro w
      split at w
      · assumption
      · split at w
        · cases w
        · split at w <;> cases w
    · intro w; rw [if_pos w]
  -- the class
  have cb : pX9_doElements_b35 E g (B + 132) (nI ik) p k35 (nI i) h = if isMm (f 0) then (if rdB (f 0) then (bd2 (pX9_offsetFits g h (B + 132) p (nI i)) fun x19 h17 => if x19 = 0 then bd2 (pX9_trap g h17 (B + 132) 3 (nI ik) (nI i)) fun x23 h21 => bz x23 (some (x23, h21)) else pX9_doElements_b91 E g (B + 132) (nI ik) p k35 (nI i) h17) else pX9_doElements_b91 E g (B + 132) (nI ik) p k35 (nI i) h) else pX9_doElements_b130 E g (B + 132) (nI ik) p k35 (nI i) 0 (-1) h := by
    unfold pX9_doElements_b35
    rw [w_lt, R.2.1, w_nn, w_tg R.2.2.2.1.1, e5, if_neg (nI_ge hin (by omega)), w_tg I.1, w_lt, I.2.1, w_nn, w_tg T60, k_unit K hf.1, if_pos he, w_lt, w_nn, w_tg T60, d_rB K hf.1, w_bd]
    simp only [uq, un0, b01, ite_not]
  have c91 : ∀ h1, XFr B h h1 → (isIx (f 0) → ¬ pX13_isIndex (hD hr (B + 193) (16 * f 3 + i)) = 0) → isMm (f 0) →
      ∃ v h2, XFr B h h2 ∧ pX13_placeOf g hr (B + 187) (nI ik) (nI i) = some v ∧ ((∃ w, v = nI w ∧ w < 64 ∧ pX9_doElements_b91 E g (B + 132) (nI ik) p k35 (nI i) h1 = pX9_doElements_b130 E g (B + 132) (nI ik) p k35 (nI i) (nI w) (nI (w % nb)) h2) ∨ (pX13_isWordAt v = 0 ∧ pX9_doElements_b91 E g (B + 132) (nI ik) p k35 (nI i) h1 = some (0, trC z h2 1 ik i))) := fun h1 x hx hm => by
    have X1 := XX.x S Q x
    obtain ⟨R1, p21, D1, I1, M1, ⟨f5, f6, f7⟩, -, eb1, -⟩ := X1
    obtain ⟨v, h2, c1, c2, c3⟩ := place_mem K S p2 Q R1 D1 I1 hf hm hk M hi eb1 hx
    have x2 := x.tr c3
    have R2 := c3.run R1
    have g6 : hI h2 q 6 = nI nb := by rw [(c3.2.1 q (by omega) (by omega) (by omega)).1]; exact f6
    refine ⟨v, h2, x2, c2, ?_⟩
    have i63 := isIn_l v 63 (by decide)
    rw [show (lN 63 : Int64) = 63 from rfl] at i63
    have hb111 : pX9_doElements_b111 E g (B + 132) (nI ik) p (nI i) h2 = some (0, trC z h2 1 ik i) := by
      unfold pX9_doElements_b111
      rw [show (1 : Int32) = nI 1 from rfl, k_trap S R2, w_bd2, w_bz is01_0]
    rcases within_0 v 63 (by decide) with ⟨e, e'⟩ | ⟨e, w, hw, rfl⟩
    · refine Or.inr ⟨i63.trans e, ?_⟩
      unfold pX9_doElements_b91
      rw [c1, w_bd2, hb111]
      rcases e' with e' | e'
      · rw [if_pos e']
      · by_cases c : v < 0
        · rw [if_pos c]
        · rw [if_neg c, if_neg (show ¬ v < 64 from fun q => by
            rw [Int32.lt_iff_toInt_lt] at e' q
            rw [nI_toInt (by decide)] at e'
            rw [show (64 : Int32).toInt = 64 from rfl] at q
            omega)]
    · refine Or.inl ⟨w, rfl, by omega, ?_⟩
      unfold pX9_doElements_b91
      rw [c1, w_bd2, if_neg (nI_pos (by omega)), if_pos (show nI w < 64 from nI_lt (b := 64) (by omega) (by decide)), w_lt, R2.2.1, w_nn, w_tg R2.2.2.2.1.1]
      unfold pX3_bankOf
      rw [w_tg R2.2.2.2.1.1, g6, if_neg (nI_nle (by omega) (by omega)), w_dvI (nI_ne0 (by omega) (by omega)), w_bd, bank_nI (by omega) (by omega) (by omega)]
  -- the reference
  have rm : pX13_isTrapped g hr (B + 187) (nI ik) (nI i) = pX13_isTrapped_b29 g (B + 187) (nI ik) (nI i) (nI (f 0)) hr := by
    unfold pX13_isTrapped
    rw [w_tg (st_187 S), a0, w_bd]
    by_cases c : i = 0
    · rw [if_pos (by rw [c]; rfl), hmiss c, w_bd, if_pos rfl]
    · rw [if_neg (nI_ne0 (by omega) (by omega))]
  have b94 : pX13_isTrapped_b94 g (B + 187) (nI ik) (nI i) hr = some (0, hr) := by
    unfold pX13_isTrapped_b94
    rw [tr0, if_pos (by decide)]
  have b94t : ∀ c, (c = 1 ∨ c = 3) → pX13_isTrapped_b94 g (B + 187) (nI ik) (nI i) (trR B hr c ik i) = some (1, trR B hr c ik i) := fun c hc => by
    unfold pX13_isTrapped_b94 trR
    rw [hI_sI, if_pos rfl, ud_n (by decide), hI_sI, if_pos rfl, ud_n (by decide), hI_sI, if_pos rfl, ud_n (by decide), hI_s, if_neg (nI_nle (by omega) (by omega))]
  have b68 : ∀ v, isMm (f 0) → pX13_placeOf g hr (B + 187) (nI ik) (nI i) = some v → pX13_isTrapped_b68 g (B + 187) (nI ik) (nI i) (nI (f 0)) hr = if pX13_isWordAt v = 0 then some (1, trR B hr 1 ik i) else some (0, hr) := fun v hm hv => by
    unfold pX13_isTrapped_b68
    simp only [m5, ite_not]
    rw [if_pos hm, hv, w_bd, show (1 : Int32) = nI 1 from rfl, r_traps S, w_bd, b94t 1 (Or.inl rfl), b94]; rfl
  by_cases hm : isMm (f 0)
  · rw [cb, if_pos hm, rm]
    -- behind the test of the offset
    have go : ∀ h1, XFr B h h1 → (isIx (f 0) → ¬ pX13_isIndex (hD hr (B + 193) (16 * f 3 + i)) = 0) → ((∃ h2 pl bk k, pX9_doElements_b91 E g (B + 132) (nI ik) p k35 (nI i) h1 = pX9_doElements_b130 E g (B + 132) (nI ik) p k35 (nI i) pl bk h2 ∧ XFr B h h2 ∧ (if isMm (f 0) then bk = nI k ∧ k < 16 else bk = -1) ∧ PLC B g hr ik i f nb pl k ∧ pX13_isTrapped_b68 g (B + 187) (nI ik) (nI i) (nI (f 0)) hr = some (0, hr))
        ∨ ∃ h2 c, (c = 1 ∨ c = 3) ∧ pX9_doElements_b91 E g (B + 132) (nI ik) p k35 (nI i) h1 = some (0, trC z h2 c ik i) ∧ XFr B h h2 ∧ pX13_isTrapped_b68 g (B + 187) (nI ik) (nI i) (nI (f 0)) hr = some (1, trR B hr c ik i)) := fun h1 x hx => by
      obtain ⟨v, h2, x2, c2, c3⟩ := c91 h1 x hx hm
      rw [b68 v hm c2]
      rcases c3 with ⟨w, rfl, hw, c4⟩ | ⟨c4, c5⟩
      · have hk16 : w % nb < 16 := by have := Nat.mod_lt w (show 0 < nb by omega); omega
        refine Or.inl ⟨h2, nI w, nI (w % nb), w % nb, c4, x2, by rw [if_pos hm]; exact ⟨rfl, hk16⟩, fun _ => ⟨w, rfl, hw, c2, rfl⟩, ?_⟩
        have i63 := isIn_l (nI w) 63 (by decide)
        rw [show (lN 63 : Int64) = 63 from rfl] at i63
        rcases within_0 (nI w) 63 (by decide) with ⟨e, e'⟩ | ⟨e, -⟩
        · exfalso
          rcases e' with e' | e'
          · exact nI_pos (by omega) e'
          · exact nI_nlt (a := 63) (b := w) (by omega) (by decide) e'
        · rw [if_neg (show ¬ pX13_isWordAt (nI w) = 0 from fun q => by
            have := i63.trans e
            rw [show pX13_isIn (nI w).toInt64 0 63 = pX13_isWordAt (nI w) from rfl, q] at this
            cases this)]
      · exact Or.inr ⟨h2, 1, Or.inl rfl, c5, x2, by rw [if_pos c4]⟩
    unfold pX13_isTrapped_b29
    simp only [m6, ite_not]
    by_cases c : isIx (f 0)
    · obtain ⟨h1, o1, o2⟩ := offset_fits S Q R D I hf hi
      rw [if_pos (show rdB (f 0) from Or.inr c), if_pos c, o1, w_bd2, w_lt, pr_187_20 p2, a3, w_bd, w_nn, w_tg (st_193 S), sl_193 S, r_cell, w_ix (show 16 * f 3 + i < 984 by have := hf.2.2.2.1; omega) (by decide), nI_clamp (by have := hf.2.2.2.1; omega)]
      by_cases ci : pX13_isIndex (hD hr (B + 193) (16 * f 3 + i)) = 0
      · rw [if_pos ci, if_pos ci, show (3 : Int32) = nI 3 from rfl, k_trap S (o2.run R), w_bd2, w_bz is01_0, r_traps S, w_bd, b94t 3 (Or.inr rfl)]
        exact Or.inr ⟨h1, 3, Or.inr rfl, rfl, o2, rfl⟩
      · rw [if_neg ci, if_neg ci]
        exact go h1 o2 fun _ => ci
    · rw [if_neg (show ¬ rdB (f 0) by omega), if_neg c]
      exact go h (XFr.rf R.2.2.2.2.2.2) fun q => absurd q c
  · rw [cb, if_neg hm, rm]
    refine Or.inl ⟨h, 0, -1, 0, rfl, XFr.rf R.2.2.2.2.2.2, by rw [if_neg hm], fun q => absurd q hm, ?_⟩
    unfold pX13_isTrapped_b29 pX13_isTrapped_b68
    simp only [m5, m6, ite_not]
    rw [if_neg (show ¬ isIx (f 0) by omega), if_neg hm, b94]
end ELL
