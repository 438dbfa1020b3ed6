/-! the TIMES of a run, in the class: fields (row 0), times by places (rows 3 to 6: UNITS, READY, READ, BANKS), what BEGAN and ENDED (rows 1, 2) -/
section TIM
variable {B b L : Nat} {E : EC} {xs : Nat → Int32} {op st bt : Nat → Nat} {aL aS aO : Nat} {g : MT} {h h' h1 h2 : CT} {z : Nat} {F : Nat → Nat → Nat} {G : Nat → Nat → Int32}
abbrev isO (j : Nat) : Prop := j = 0 ∨ j = 1 ∨ j = 2 ∨ j = 9 ∨ j = 10 ∨ j = 11 ∨ j = 12
abbrev tln (a : Nat) : Nat := if a = 3 then 4 else if a = 6 then 16 else 96
def TimA (g : MT) (r : Nat → Nat → Option Nat) (z : Nat) : Prop := gT g z = 9 ∧ (r z 6 = some (z + 1) ∧ gT g (z + 1) = 20 ∧ gL g (z + 1) = 30) ∧ (r z 7 = some (z + 2) ∧ gT g (z + 2) = 20 ∧ gL g (z + 2) = 30) ∧ (r z 13 = some (z + 3) ∧ gT g (z + 3) = 20 ∧ gL g (z + 3) = 4)
  ∧ (r z 14 = some (z + 4) ∧ gT g (z + 4) = 20 ∧ gL g (z + 4) = 96) ∧ (r z 15 = some (z + 5) ∧ gT g (z + 5) = 20 ∧ gL g (z + 5) = 96) ∧ r z 16 = some (z + 6) ∧ gT g (z + 6) = 20 ∧ gL g (z + 6) = 16
theorem timA_138 {r : Nat → Nat → Option Nat} (S : Sh B g) (p : PtC B r) : TimA g r (B + 138) := ⟨st_138 S, ⟨pc_138_6 p, st_139 S, sl_139 S⟩, ⟨pc_138_7 p, st_140 S, sl_140 S⟩, ⟨pc_138_13 p, st_141 S, sl_141 S⟩, ⟨pc_138_14 p, st_142 S, sl_142 S⟩, ⟨pc_138_15 p, st_143 S, sl_143 S⟩, pc_138_16 p, st_144 S, sl_144 S⟩
theorem timA_176 {r : Nat → Nat → Option Nat} (S : Sh B g) (p : PtC B r) : TimA g r (B + 176) := ⟨st_176 S, ⟨pc_176_6 p, st_177 S, sl_177 S⟩, ⟨pc_176_7 p, st_178 S, sl_178 S⟩, ⟨pc_176_13 p, st_179 S, sl_179 S⟩, ⟨pc_176_14 p, st_180 S, sl_180 S⟩, ⟨pc_176_15 p, st_181 S, sl_181 S⟩, pc_176_16 p, st_182 S, sl_182 S⟩
def TC (z : Nat) (h : CT) (F : Nat → Nat → Nat) (G : Nat → Nat → Int32) : Prop := (∀ j, isO j → hI h z j = nI (F 0 j)) ∧ hI h z 8 = nI (F 0 8) - 1 ∧ (∀ a j, 3 ≤ a → a ≤ 6 → j < tln a → hI h (z + a) j = nI (F a j)) ∧ ∀ a j, 1 ≤ a → a ≤ 2 → j < 30 → hI h (z + a) j = G a j
/-- nothing but TIMES was written, and of them not the TRAP -/
def TFr (z : Nat) (h h' : CT) : Prop := hR h' = hR h ∧ (∀ y, (y < z ∨ z + 6 < y) → Eqa h h' y) ∧ ∀ j, j = 3 ∨ j = 4 ∨ j = 5 → hI h' z j = hI h z j
theorem TFr.rf (z : Nat) (h : CT) : TFr z h h := ⟨rfl, fun y _ => Eqa.rf h y, fun _ _ => rfl⟩
theorem TFr.tr (x : TFr z h h1) (y : TFr z h1 h2) : TFr z h h2 := ⟨y.1.trans x.1, fun w hw => (x.2.1 w hw).tr (y.2.1 w hw), fun j hj => (y.2.2 j hj).trans (x.2.2 j hj)⟩
theorem TFr.a (x : TFr z h h1) {a k : Nat} {v : Int32} (a1 : 1 ≤ a) (a6 : a ≤ 6) : TFr z h (sI h1 (z + a) k v) := ⟨x.1, fun w hw => (x.2.1 w hw).sI (by omega), fun j hj => by rw [hI_sI, if_neg (by omega)]; exact x.2.2 j hj⟩
theorem TFr.o (x : TFr z h h1) {k : Nat} {v : Int32} (hk : k ≠ 3 ∧ k ≠ 4 ∧ k ≠ 5) : TFr z h (sI h1 z k v) := ⟨x.1, fun w hw => (x.2.1 w hw).sI (by omega), fun j hj => by rw [hI_sI, if_pos rfl, ud_n (by omega)]; exact x.2.2 j hj⟩
theorem up2_s {α : Type} (f : Nat → Nat → α) (a k : Nat) (x : α) : up2 f a k x a k = x := if_pos ⟨rfl, rfl⟩
theorem up2_n {α : Type} {f : Nat → Nat → α} {a k c j : Nat} {x : α} (hn : ¬ (c = a ∧ j = k)) : up2 f a k x c j = f c j := if_neg hn
theorem TC.o {v j : Nat} (C : TC z h F G) (hj : isO j) : TC z (sI h z j (nI v)) (up2 F 0 j v) G := by
  refine ⟨fun i hi => ?_, ?_, fun a i a1 a2 a3 => ?_, fun a i a1 a2 a3 => ?_⟩
  · rw [hI_sI, if_pos rfl]
    by_cases e : i = j
    · rw [e, ud_s, up2_s]
    · rw [ud_n e, up2_n (fun q => e q.2)]; exact C.1 i hi
  · rw [hI_sI, if_pos rfl, ud_n (by omega), up2_n (by omega)]; exact C.2.1
  · rw [hI_sI, if_neg (by omega), up2_n (by omega)]; exact C.2.2.1 a i a1 a2 a3
  · rw [hI_sI, if_neg (by omega)]; exact C.2.2.2 a i a1 a2 a3
theorem TC.e8 {v : Nat} {x : Int32} (C : TC z h F G) (hx : x = nI v - 1) : TC z (sI h z 8 x) (up2 F 0 8 v) G := by
  refine ⟨fun i hi => ?_, ?_, fun a i a1 a2 a3 => ?_, fun a i a1 a2 a3 => ?_⟩
  · rw [hI_sI, if_pos rfl, ud_n (by omega), up2_n (by omega)]; exact C.1 i hi
  · rw [hI_sI, if_pos rfl, ud_s, up2_s]; exact hx
  · rw [hI_sI, if_neg (by omega), up2_n (by omega)]; exact C.2.2.1 a i a1 a2 a3
  · rw [hI_sI, if_neg (by omega)]; exact C.2.2.2 a i a1 a2 a3
theorem TC.a {v a k : Nat} (C : TC z h F G) (a1 : 3 ≤ a) (a2 : a ≤ 6) : TC z (sI h (z + a) k (nI v)) (up2 F a k v) G := by
  refine ⟨fun i hi => ?_, ?_, fun c i c1 c2 c3 => ?_, fun c i c1 c2 c3 => ?_⟩
  · rw [hI_sI, if_neg (by omega), up2_n (by omega)]; exact C.1 i hi
  · rw [hI_sI, if_neg (by omega), up2_n (by omega)]; exact C.2.1
  · rw [hI_sI]
    by_cases e : c = a
    · subst e
      rw [if_pos rfl]
      by_cases e : i = k
      · rw [e, ud_s, up2_s]
      · rw [ud_n e, up2_n (fun q => e q.2)]; exact C.2.2.1 c i c1 c2 c3
    · rw [if_neg (by omega), up2_n (fun q => e q.1)]; exact C.2.2.1 c i c1 c2 c3
  · rw [hI_sI, if_neg (by omega)]; exact C.2.2.2 c i c1 c2 c3
theorem TC.bg {a k : Nat} {x : Int32} (C : TC z h F G) (a1 : 1 ≤ a) (a2 : a ≤ 2) : TC z (sI h (z + a) k x) F (up2 G a k x) := by
  refine ⟨fun i hi => ?_, ?_, fun c i c1 c2 c3 => ?_, fun c i c1 c2 c3 => ?_⟩
  · rw [hI_sI, if_neg (by omega)]; exact C.1 i hi
  · rw [hI_sI, if_neg (by omega)]; exact C.2.1
  · rw [hI_sI, if_neg (by omega)]; exact C.2.2.1 c i c1 c2 c3
  · rw [hI_sI]
    by_cases e : c = a
    · subst e
      rw [if_pos rfl]
      by_cases e : i = k
      · rw [e, ud_s, up2_s]
      · rw [ud_n e, up2_n (fun q => e q.2)]; exact C.2.2.2 c i c1 c2 c3
    · rw [if_neg (by omega), up2_n (fun q => e q.1)]; exact C.2.2.2 c i c1 c2 c3
theorem TC.to {F' : Nat → Nat → Nat} {G' : Nat → Nat → Int32} (C : TC z h F G) (eF : ∀ a j, F' a j = F a j) (eG : ∀ a j, G' a j = G a j) : TC z h F' G' := by
  have e1 : F' = F := funext fun a => funext fun j => eF a j
  have e2 : G' = G := funext fun a => funext fun j => eG a j
  rw [e1, e2]; exact C
theorem TC.rw (C : TC z h F G) (e : ∀ y, z ≤ y → y ≤ z + 6 → hI h1 y = hI h y) : TC z h1 F G := by
  refine ⟨fun j hj => ?_, ?_, fun a j a1 a2 a3 => ?_, fun a j a1 a2 a3 => ?_⟩
  · rw [e z (by omega) (by omega)]; exact C.1 j hj
  · rw [e z (by omega) (by omega)]; exact C.2.1
  · rw [e _ (by omega) (by omega)]; exact C.2.2.1 a j a1 a2 a3
  · rw [e _ (by omega) (by omega)]; exact C.2.2.2 a j a1 a2 a3
/-- an INSTRUCTION at i: its kind and fields -/
def IC (op : Nat → Nat) (g : MT) (h : CT) (i : Nat) (f : Nat → Nat) : Prop := gT g i = 2 ∧ hR h i 0 = some (op (f 0)) ∧ ∀ j, 1 ≤ j → j ≤ 9 → hI h i j = nI (f j)
theorem IC.keep {i : Nat} {f : Nat → Nat} (I : IC op g h i f) (eI : hI h' i = hI h i) (eR : hR h' i = hR h i) : IC op g h' i f := ⟨I.1, by rw [eR]; exact I.2.1, fun j j1 j2 => by rw [eI]; exact I.2.2 j j1 j2⟩
theorem IC.fr {i : Nat} {f : Nat → Nat} (I : IC op g h i f) (x : TFr z h h') (hi : i < z ∨ z + 6 < i) : IC op g h' i f := I.keep (x.2.1 i hi).1 (x.2.1 i hi).2.2.2
def FOK (f : Nat → Nat) : Prop := f 0 < 27 ∧ f 1 < 6 ∧ f 2 < 6 ∧ f 3 < 6 ∧ f 4 < 4 ∧ f 5 < 64 ∧ f 6 ≤ 16 ∧ f 7 ≤ 200 ∧ (f 0 = 0 → f 7 ≤ 16) ∧ f 8 ≤ 1 ∧ (f 8 = 1 → 7 ≤ f 0 ∧ f 0 ≤ 16)
theorem k_tag (K : EOK E b L xs op st bt aL aS aO) {k : Nat} (hk : k < 27) : gT E.2.2 (op k) = 60 := (K.2.1 k (by omega)).1
theorem k_does (K : EOK E b L xs op st bt aL aS aO) {k : Nat} (hk : k < 27) (w : Int32) : pX5_does E g h (op k) w = some (if (opD k).2.2.2.2 &&& w = 0 then 0 else 1) := by
  unfold pX5_does
  rw [w_tg (k_tag K hk), (K.2.1 k (by omega)).2.2.1]
  split <;> rfl
theorem if_not10 {p q : Prop} [Decidable p] [Decidable q] (e : p ↔ ¬ q) : (if p then (0 : Int32) else 1) = if q then 1 else 0 := by
  by_cases c : q
  · rw [if_pos c, if_neg (fun z => e.mp z c)]
  · rw [if_neg c, if_pos (e.mpr c)]
theorem d_rD (K : EOK E b L xs op st bt aL aS aO) {k : Nat} (hk : k < 27) : pX5_does E g h (op k) 1 = some (if rdD k then 1 else 0) := by rw [k_does K hk, if_not10 (kt_c k hk).1]
theorem d_wD (K : EOK E b L xs op st bt aL aS aO) {k : Nat} (hk : k < 27) : pX5_does E g h (op k) 2 = some (if wrD k ∨ k = 21 then 1 else 0) := by rw [k_does K hk, if_not10 (kt_c k hk).2.1]
theorem d_rA (K : EOK E b L xs op st bt aL aS aO) {k : Nat} (hk : k < 27) : pX5_does E g h (op k) 4 = some (if rdA k then 1 else 0) := by rw [k_does K hk, if_not10 (kt_c k hk).2.2.1]
theorem d_rB (K : EOK E b L xs op st bt aL aS aO) {k : Nat} (hk : k < 27) : pX5_does E g h (op k) 8 = some (if rdB k then 1 else 0) := by rw [k_does K hk, if_not10 (kt_c k hk).2.2.2.1]
theorem d_rM (K : EOK E b L xs op st bt aL aS aO) {k : Nat} (hk : k < 27) : pX5_does E g h (op k) 16 = some (if k = 20 ∨ k = 21 ∨ k = 22 then 1 else 0) := by rw [k_does K hk, if_not10 (kt_c k hk).2.2.2.2.1]
theorem d_wM (K : EOK E b L xs op st bt aL aS aO) {k : Nat} (hk : k < 27) : pX5_does E g h (op k) 32 = some (if isCp k ∨ k = 20 then 1 else 0) := by rw [k_does K hk, if_not10 (kt_c k hk).2.2.2.2.2.1]
theorem d_aM (K : EOK E b L xs op st bt aL aS aO) {k : Nat} (hk : k < 27) : pX5_does E g h (op k) 48 = some (if isCp k ∨ k = 20 ∨ k = 21 ∨ k = 22 then 1 else 0) := by rw [k_does K hk, if_not10 (kt_c k hk).2.2.2.2.2.2.1]
theorem d_wY (K : EOK E b L xs op st bt aL aS aO) {k : Nat} (hk : k < 27) : pX5_does E g h (op k) 128 = some (if k = 4 ∨ k = 6 then 1 else 0) := by rw [k_does K hk, if_not10 (kt_c k hk).2.2.2.2.2.2.2]
theorem k_unit (K : EOK E b L xs op st bt aL aS aO) {k : Nat} (hk : k < 27) : hI E.2.1 (op k) 2 = if isEl k then nI (unN k) else -1 := by rw [(K.2.1 k (by omega)).2.2.2.1, kt_u k hk]
theorem k_lat (K : EOK E b L xs op st bt aL aS aO) {k : Nat} (hk : k < 27) (he : isEl k) : pX5_latency E g h (op k) = some (nI (laN k)) := by
  have u4 := unN_lt k
  unfold pX5_latency
  rw [w_tg (k_tag K hk), k_unit K hk, if_pos he, if_neg (nI_pos (by omega)), K.1.1, w_kR, w_tg K.2.2.2.1.1, K.2.2.2.1.2.1, if_neg (show ¬ Int32.ofNat 4 ≤ nI (unN k) from nI_ge u4 (by decide)), w_kR, w_tg K.2.2.2.1.1, K.2.2.2.1.2.1, w_ix u4 (by decide), nI_clamp (by omega), K.2.2.2.1.2.2 _ u4, kt_l _ u4 k hk he rfl]
theorem eq_op (K : EOK E b L xs op st bt aL aS aO) {j k : Nat} (hj : j < 28) (hk : k < 28) : (some (op j) = some (op k)) = (j = k) := propext ⟨fun z => op_inj K hj hk (Option.some.inj z), fun z => by rw [z]⟩
theorem e_st (K : EOK E b L xs op st bt aL aS aO) (k : Nat) (hk : k < 28) : E.1 (5 + k) = .ref (op k) := K.1.2.2.2.2.2.1 k hk
theorem t_cell {d i : Nat} (hd : d < 6) (hi : i < 16) : pX10_cell (nI d) (nI i) = nI (16 * d + i) := by
  unfold pX10_cell
  rw [if_neg (nI_pos (by omega)), if_neg (show ¬ 6 ≤ nI d from nI_ge (b := 6) hd (by decide)), if_neg (nI_pos (by omega)), if_neg (show ¬ 16 ≤ nI i from nI_ge (b := 16) hi (by decide)), show (16 : Int32) = nI 16 from rfl, pk_mul, nI_add, Nat.mul_comm]
theorem t_note (A : TimA g (hR h) z) {v c : Nat} (e : hI h z 0 = nI c) (hc : c < 2 ^ 31) (hv : v < 2 ^ 31) : pX10_note g h z (nI v) = some (sI h z 0 (nI (max c v))) := by
  unfold pX10_note
  rw [w_tg A.1, e]
  by_cases q : v ≤ c
  · rw [if_pos (nI_le q hc), show max c v = c by omega, sI_id e]
  · rw [if_neg (nI_ge (by omega) hv), show max c v = v by omega]; rfl
theorem t_readyAt (A : TimA g (hR h) z) (C : TC z h F G) {d i : Nat} (hd : d < 6) (hi : i < 16) : pX10_readyAt g h z (nI d) (nI i) = some (nI (F 4 (16 * d + i))) := by
  unfold pX10_readyAt
  rw [w_tg A.1, w_lt, A.2.2.2.2.1.1, w_nn, w_tg A.2.2.2.2.1.2.1, A.2.2.2.2.1.2.2, t_cell hd hi, w_ix (show 16 * d + i < 96 by omega) (by decide), nI_clamp (by omega), C.2.2.1 4 _ (by decide) (by decide) (show 16 * d + i < 96 by omega)]
theorem t_readNow (A : TimA g (hR h) z) (C : TC z h F G) {d i w : Nat} (hd : d < 6) (hi : i < 16) (hw : w < 2 ^ 31) (hF : F 5 (16 * d + i) < 2 ^ 31) : pX10_readNow g h z (nI d) (nI i) (nI w) = some (sI h (z + 5) (16 * d + i) (nI (max (F 5 (16 * d + i)) w))) := by
  unfold pX10_readNow
  rw [w_tg A.1, t_cell hd hi, w_lt, w_lt, w_lt, A.2.2.2.2.2.1.1, w_nn, w_tg A.2.2.2.2.2.1.2.1, A.2.2.2.2.2.1.2.2, w_ix (show 16 * d + i < 96 by omega) (by decide), w_nn, w_tg A.2.2.2.2.2.1.2.1, A.2.2.2.2.2.1.2.2, w_ix (show 16 * d + i < 96 by omega) (by decide), nI_clamp (by omega), C.2.2.1 5 _ (by decide) (by decide) (show 16 * d + i < 96 by omega), max_nI hF hw, w_lt]
theorem t_readyFrom (A : TimA g (hR h) z) {c : Nat} (e : hI h z 0 = nI c) (hc : c < 2 ^ 31) {d i w : Nat} (hd : d < 6) (hi : i < 16) (hw : w < 2 ^ 31) : pX10_readyFrom g h z (nI d) (nI i) (nI w) = some (sI (sI h (z + 4) (16 * d + i) (nI w)) z 0 (nI (max c w))) := by
  have n := t_note (g := g) (h := sI h (z + 4) (16 * d + i) (nI w)) (z := z) (v := w) (c := c) A (by rw [hI_sI, if_neg (by omega)]; exact e) hc hw
  unfold pX10_readyFrom
  rw [w_tg A.1, w_lt, A.2.2.2.2.1.1, w_nn, w_tg A.2.2.2.2.1.2.1, A.2.2.2.2.1.2.2, t_cell hd hi, w_ix (show 16 * d + i < 96 by omega) (by decide), nI_clamp (by omega), w_lt, n, w_bd]
theorem t_endAt (A : TimA g (hR h) z) {c : Nat} (e : hI h z 0 = nI c) (hc : c < 2 ^ 31) {k w : Nat} (hk : k < 30) (hw : w < 2 ^ 31) : pX10_endAt g h z (nI k) (nI w) = some (sI (sI h z 0 (nI (max c w))) (z + 2) k (nI w)) := by
  unfold pX10_endAt
  rw [w_tg A.1, t_note A e hc hw, w_bd, if_neg (nI_pos (by omega)), w_lt, hR_sI, A.2.2.1.1, w_nn, w_tg A.2.2.1.2.1, A.2.2.1.2.2, if_neg (show ¬ Int32.ofNat 30 ≤ nI k from nI_ge hk (by decide)), w_lt, w_nn, w_tg A.2.2.1.2.1, A.2.2.1.2.2, w_ix hk (by decide), nI_clamp (by omega), w_lt]
theorem t_bank (A : TimA g (hR h) z) (C : TC z h F G) {w k y : Nat} (hk : k < 16) (hw : w < 2 ^ 31) (hF : F 6 k < 2 ^ 31) : pX10_throughBank g h z (nI w) (nI k) (nI y) = some (nI (max w (F 6 k)), sI (sI h z 1 (nI (F 0 1 + (max w (F 6 k) - w)))) (z + 6) k (nI (max w (F 6 k) + y))) := by
  have e6 : hI h (z + 6) k = nI (F 6 k) := C.2.2.1 6 _ (by decide) (by decide) (show k < 16 from hk)
  have es : nI (max w (F 6 k)) - nI w = nI (max w (F 6 k) - w) := pk_sub (by omega)
  unfold pX10_throughBank
  rw [w_tg A.1, if_neg (nI_pos (by omega)), w_lt, A.2.2.2.2.2.2.1, w_nn, w_tg A.2.2.2.2.2.2.2.1, A.2.2.2.2.2.2.2.2, if_pos (show nI k < Int32.ofNat 16 from nI_lt hk (by decide)), w_lt, w_nn, w_tg A.2.2.2.2.2.2.2.1, A.2.2.2.2.2.2.2.2, w_ix hk (by decide), nI_clamp (by omega), w_lt, e6, max_nI hw hF, es, C.1 1 (by decide), nI_add, w_lt, w_lt, hR_sI, A.2.2.2.2.2.2.1, w_nn, w_tg A.2.2.2.2.2.2.2.1, A.2.2.2.2.2.2.2.2, w_ix hk (by decide), nI_add, w_lt]
theorem t_bankN (A : TimA g (hR h) z) {x y : Int32} : pX10_throughBank g h z x (-1) y = some (x, h) := by
  unfold pX10_throughBank
  rw [w_tg A.1, if_pos (by decide)]
end TIM
