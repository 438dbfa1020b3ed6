/-! an element is TAKEN, in the class -/
section TAK
variable {B b L : Nat} {E : EC} {xs : Nat → Int32} {op st bt : Nat → Nat} {aL aS aO : Nat} {g : MT} {h h' h1 h2 : CT} {z : Nat} {F : Nat → Nat → Nat} {G : Nat → Nat → Int32}
/-- when the ROWS that are read are READY -/
def opR (F : Nat → Nat → Nat) (f : Nat → Nat) (i : Nat) : Nat := max (if rdD (f 0) then F 4 (16 * f 1 + i) else 0) (max (if rdA (f 0) then F 4 (16 * f 2 + i) else 0) (if rdB (f 0) then F 4 (16 * f 3 + i) else 0))
def tk1 (F : Nat → Nat → Nat) (f : Nat → Nat) (i s : Nat) : Nat := max (max s (opR F f i)) (if wrD (f 0) then max (F 4 (16 * f 1 + i)) (F 5 (16 * f 1 + i)) + 1 - laN (f 0) else 0)
def tk2 (F : Nat → Nat → Nat) (f : Nat → Nat) (i s k : Nat) : Nat := if isMm (f 0) then max (tk1 F f i s) (F 6 k) else tk1 F f i s
def tkF (F : Nat → Nat → Nat) (f : Nat → Nat) (i s k y : Nat) : Nat → Nat → Nat := fun a j =>
  if a = 0 then (if j = 0 then max (F 0 0) (if wrD (f 0) then tk2 F f i s k + laN (f 0) else tk2 F f i s k) else if j = 1 then F 0 1 + (tk2 F f i s k - tk1 F f i s) else if j = 10 then tk2 F f i s k else F 0 j)
  else if a = 4 then (if wrD (f 0) ∧ j = 16 * f 1 + i then tk2 F f i s k + laN (f 0) else F 4 j)
  else if a = 5 then (if (rdD (f 0) ∧ j = 16 * f 1 + i) ∨ (rdA (f 0) ∧ j = 16 * f 2 + i) ∨ (rdB (f 0) ∧ j = 16 * f 3 + i) then max (F 5 j) (tk2 F f i s k) else F 5 j)
  else if a = 6 then (if isMm (f 0) ∧ j = k then tk2 F f i s k + y else F 6 j)
  else F a j
theorem t_opsReady (K : EOK E b L xs op st bt aL aS aO) (A : TimA g (hR h) z) (C : TC z h F G) {p i : Nat} {f : Nat → Nat} (I : IC op g h p f) (hf : FOK f) (hi : i < 16) (hF : ∀ a j, F a j < 2 ^ 31) : pX10_operandsReady E g h z p (nI i) = some (nI (opR F f i)) := by
  have T := k_tag K hf.1
  have r1 := t_readyAt A C hf.2.1 hi
  have r2 := t_readyAt A C hf.2.2.1 hi
  have r3 := t_readyAt A C hf.2.2.2.1 hi
  have b52 : ∀ m, m < 2 ^ 31 → pX10_operandsReady_b52 E g h z p (nI i) (nI m) = some (nI (max m (if rdB (f 0) then F 4 (16 * f 3 + i) else 0))) := fun m hm => by
    unfold pX10_operandsReady_b52
    rw [w_tg I.1, w_lt, I.2.1, w_nn, w_tg T, d_rB K hf.1, w_bd]
    simp only [b01, ite_not]
    by_cases c : rdB (f 0)
    · rw [if_pos c, if_pos c, I.2.2 3 (by decide) (by decide), r3, w_bd, w_lt, max_nI hm (hF _ _)]
    · rw [if_neg c, if_neg c, Nat.max_zero]
  have b27 : ∀ m, m < 2 ^ 31 → pX10_operandsReady_b27 E g h z p (nI i) (nI m) = some (nI (max m (max (if rdA (f 0) then F 4 (16 * f 2 + i) else 0) (if rdB (f 0) then F 4 (16 * f 3 + i) else 0)))) := fun m hm => by
    unfold pX10_operandsReady_b27
    rw [w_tg I.1, w_lt, I.2.1, w_nn, w_tg T, d_rA K hf.1, w_bd]
    simp only [b01, ite_not]
    by_cases c : rdA (f 0)
    · rw [if_pos c, if_pos c, I.2.2 2 (by decide) (by decide), r2, w_bd, max_nI hm (hF _ _), w_lt, b52 _ (by have := hF 4 (16 * f 2 + i); omega), Nat.max_assoc]
    · rw [if_neg c, if_neg c, Nat.zero_max, b52 m hm]
  unfold pX10_operandsReady
  rw [w_tg A.1, w_tg I.1, w_lt, I.2.1, w_nn, w_tg T, d_rD K hf.1, w_bd]
  simp only [b01, ite_not]
  unfold opR
  by_cases c : rdD (f 0)
  · rw [if_pos c, if_pos c, I.2.2 1 (by decide) (by decide), r1, w_bd, show (0 : Int32) = nI 0 from rfl, max_nI (by decide) (hF _ _), w_lt, b27 _ (by have := hF 4 (16 * f 1 + i); omega), Nat.zero_max]
  · rw [if_neg c, if_neg c, show (0 : Int32) = nI 0 from rfl, b27 0 (by decide)]
def rdF (F : Nat → Nat → Nat) (f : Nat → Nat) (i w : Nat) : Nat → Nat → Nat := fun a j => if a = 5 ∧ ((rdD (f 0) ∧ j = 16 * f 1 + i) ∨ (rdA (f 0) ∧ j = 16 * f 2 + i) ∨ (rdB (f 0) ∧ j = 16 * f 3 + i)) then max (F 5 j) w else F a j
theorem rd_le {F : Nat → Nat → Nat} {T w c k : Nat} (hF : ∀ a j, F a j < T) (hw : w < T) : ∀ a j, up2 F c k (max (F c k) w) a j < T := fun a j => by
  unfold up2
  split
  · have := hF c k; omega
  · exact hF a j
theorem t_readOps (K : EOK E b L xs op st bt aL aS aO) (A : TimA g (hR h) z) (C : TC z h F G) {p i w : Nat} {f : Nat → Nat} (I : IC op g h p f) (hp : p < z ∨ z + 6 < p) (hf : FOK f) (hi : i < 16) (hF : ∀ a j, F a j < 2 ^ 31) (hw : F 0 10 = w) : ∃ h', pX10_readOperands E g h z p (nI i) = some h' ∧ TC z h' (rdF F f i w) G ∧ TFr z h h' := by
  have T := k_tag K hf.1
  have w31 : w < 2 ^ 31 := by rw [← hw]; exact hF 0 10
  have b48 : ∀ (h : CT) (F : Nat → Nat → Nat), TimA g (hR h) z → TC z h F G → IC op g h p f → (∀ a j, F a j < 2 ^ 31) → F 0 10 = w → ∃ h', pX10_readOperands_b48 E g z p (nI i) h = some h' ∧ TC z h' (if rdB (f 0) then up2 F 5 (16 * f 3 + i) (max (F 5 (16 * f 3 + i)) w) else F) G ∧ TFr z h h' := fun h F A C I hF hw => by
    unfold pX10_readOperands_b48
    rw [w_tg I.1, w_lt, I.2.1, w_nn, w_tg T, d_rB K hf.1, w_bd]
    simp only [b01, ite_not]
    by_cases c : rdB (f 0)
    · rw [if_pos c, if_pos c, I.2.2 3 (by decide) (by decide), C.1 10 (by decide), hw, t_readNow A C hf.2.2.2.1 hi w31 (hF _ _), w_bd]
      exact ⟨_, rfl, C.a (by decide) (by decide), (TFr.rf z h).a (by decide) (by decide)⟩
    · rw [if_neg c, if_neg c]; exact ⟨h, rfl, C, TFr.rf z h⟩
  have b24 : ∀ (h : CT) (F : Nat → Nat → Nat), TimA g (hR h) z → TC z h F G → IC op g h p f → (∀ a j, F a j < 2 ^ 31) → F 0 10 = w → ∃ h' F', pX10_readOperands_b24 E g z p (nI i) h = some h' ∧ TC z h' F' G ∧ TFr z h h' ∧ F' = (let F1 := if rdA (f 0) then up2 F 5 (16 * f 2 + i) (max (F 5 (16 * f 2 + i)) w) else F; if rdB (f 0) then up2 F1 5 (16 * f 3 + i) (max (F1 5 (16 * f 3 + i)) w) else F1) := fun h F A C I hF hw => by
    unfold pX10_readOperands_b24
    rw [w_tg I.1, w_lt, I.2.1, w_nn, w_tg T, d_rA K hf.1, w_bd]
    simp only [b01, ite_not]
    by_cases c : rdA (f 0)
    · rw [if_pos c, if_pos c, I.2.2 2 (by decide) (by decide), C.1 10 (by decide), hw, t_readNow A C hf.2.2.1 hi w31 (hF _ _), w_bd]
      have fr : TFr z h (sI h (z + 5) (16 * f 2 + i) (nI (max (F 5 (16 * f 2 + i)) w))) := (TFr.rf z h).a (by decide) (by decide)
      obtain ⟨h', q1, q2, q3⟩ := b48 (sI h (z + 5) (16 * f 2 + i) (nI (max (F 5 (16 * f 2 + i)) w))) _ A (C.a (by decide) (by decide)) (I.fr fr hp) (rd_le hF w31) (by rw [up2_n (by omega)]; exact hw)
      exact ⟨h', _, q1, q2, fr.tr q3, rfl⟩
    · rw [if_neg c, if_neg c]
      obtain ⟨h', q1, q2, q3⟩ := b48 h F A C I hF hw
      exact ⟨h', _, q1, q2, q3, rfl⟩
  have main : ∃ h' F', pX10_readOperands E g h z p (nI i) = some h' ∧ TC z h' F' G ∧ TFr z h h' ∧ F' = (let F0 := if rdD (f 0) then up2 F 5 (16 * f 1 + i) (max (F 5 (16 * f 1 + i)) w) else F; let F1 := if rdA (f 0) then up2 F0 5 (16 * f 2 + i) (max (F0 5 (16 * f 2 + i)) w) else F0; if rdB (f 0) then up2 F1 5 (16 * f 3 + i) (max (F1 5 (16 * f 3 + i)) w) else F1) := by
    unfold pX10_readOperands
    rw [w_tg A.1, w_tg I.1, w_lt, I.2.1, w_nn, w_tg T, d_rD K hf.1, w_bd]
    simp only [b01, ite_not]
    by_cases c : rdD (f 0)
    · rw [if_pos c, if_pos c, I.2.2 1 (by decide) (by decide), C.1 10 (by decide), hw, t_readNow A C hf.2.1 hi w31 (hF _ _), w_bd]
      have fr : TFr z h (sI h (z + 5) (16 * f 1 + i) (nI (max (F 5 (16 * f 1 + i)) w))) := (TFr.rf z h).a (by decide) (by decide)
      obtain ⟨h', F', q1, q2, q3, q4⟩ := b24 (sI h (z + 5) (16 * f 1 + i) (nI (max (F 5 (16 * f 1 + i)) w))) _ A (C.a (by decide) (by decide)) (I.fr fr hp) (rd_le hF w31) (by rw [up2_n (by omega)]; exact hw)
      exact ⟨h', F', q1, q2, fr.tr q3, q4⟩
    · rw [if_neg c, if_neg c]
      exact b24 h F A C I hF hw
  obtain ⟨h', F', q1, q2, q3, q4⟩ := main
  refine ⟨h', q1, q2.to (fun a j => ?_) (fun _ _ => rfl), q3⟩
  rw [q4]
  have u : ∀ (F : Nat → Nat → Nat) (c : Nat), up2 F 5 c (max (F 5 c) w) a j = if a = 5 ∧ j = c then max (F 5 j) w else F a j := fun F c => by
    unfold up2
    by_cases e : a = 5 ∧ j = c
    · rw [if_pos e, if_pos e, e.2]
    · rw [if_neg e, if_neg e]
  have v : ∀ (F : Nat → Nat → Nat) (c : Nat), up2 F 5 c (max (F 5 c) w) 5 j = if j = c then max (F 5 j) w else F 5 j := fun F c => by
    unfold up2
    by_cases e : j = c
    · rw [if_pos ⟨rfl, e⟩, if_pos e, e]
    · rw [if_neg (fun z => e z.2), if_neg e]
  by_cases a5 : a = 5
  · subst a5
    by_cases c1 : rdD (f 0) <;> by_cases c2 : rdA (f 0) <;> by_cases c3 : rdB (f 0) <;> simp only [rdF, c1, c2, c3, if_true, if_false, v, true_and, false_and, false_or, or_false] <;> (repeat' split) <;> omega
  · have e : rdF F f i w a j = F a j := by unfold rdF; rw [if_neg (fun z => a5 z.1)]
    rw [e]
    by_cases c1 : rdD (f 0) <;> by_cases c2 : rdA (f 0) <;> by_cases c3 : rdB (f 0) <;> simp only [c1, c2, c3, if_true, if_false, u, a5, false_and]
end TAK
