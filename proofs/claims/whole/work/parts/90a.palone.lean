/-! a memory instruction alone: both -/
section ALO
variable {B : Nat} {E : EC} {op : Nat → Nat} {g : MT}
def alN (m b w st : Nat) : Nat → Nat → Nat → Nat → (Nat → Nat) → Nat
  | 0, _, _, Z, _ => Z
  | d + 1, j, T, Z, F => alN m b w st d (j + 1) (max T (F ((w + st * j) % 64 % m)) + 1) (Z + (max T (F ((w + st * j) % 64 % m)) - T)) (ud F ((w + st * j) % 64 % m) (max T (F ((w + st * j) % 64 % m)) + b))
theorem max_nI {a b : Nat} (ha : a < 2 ^ 31) (hb : b < 2 ^ 31) : pJ9_max_7cf53 (nI a) (nI b) = nI (max a b) := by
  unfold pJ9_max_7cf53
  by_cases c : a < b
  · have : nI a < nI b := nI_lt c hb
    rw [if_pos this, show max a b = b by omega]
  · rw [if_neg (Int32.not_lt.mpr (nI_le (by omega) ha)), show max a b = a by omega]
theorem bank_nI {x m : Nat} (hx : x < 2 ^ 31) (hm : m < 2 ^ 31) (m0 : 0 < m) : nI x - nI x / nI m * nI m = nI (x % m) := by
  have h1 := Nat.div_mul_le_self x m
  rw [pk_div hx m0 hm, pk_mul, pk_sub h1]
  congr 1
  have := Nat.div_add_mod x m
  rw [Nat.mul_comm] at this
  omega
theorem alo_loop (S : Sh B g) {m b w st n : Nat} (m0 : 1 ≤ m) (m1 : m ≤ 16) (b0 : 1 ≤ b) (b1 : b ≤ 12) (hw : w < 64) (hs : st ≤ 64) (hn : n ≤ 64) : ∀ (d j T Z : Nat) (F : Nat → Nat) (f f' : Nat) (h sr : CT), j + d = n → d < f → d < f' → T ≤ 13 * j → Z ≤ 900 * j → (∀ k, F k ≤ 13 * j + 12) → PtC B (hR h) → PtR B (hR sr) → hI sr (B + 192) 2 = nI b → hI h (B + 176) 1 = nI Z →
    (∀ k, k < 16 → hI h (B + 182) k = nI (F k) ∧ ((F k = 0 ∧ hI sr (B + 204) k = -12) ∨ (b ≤ F k ∧ hI sr (B + 204) k = nI (F k - b)))) →
    ∃ h' sr', pX10_stallsAlone_l19 g (B + 176) (nI w) (nI st) (nI n) (nI m) (nI b) f (nI T) (nI j) h = some (nI (alN m b w st d j T Z F), h') ∧ pX13_alone_l34 g (B + 187) (nI w) (nI st) (nI n) (nI m) f' (nI T - 1) (nI Z) (nI j) sr = some (nI (alN m b w st d j T Z F), sr')
      ∧ (hR h' = hR h ∧ ∀ y, y ≠ B + 176 → y ≠ B + 182 → Eqa h h' y) ∧ But1 (B + 204) sr sr' := by
  intro d
  induction d with
  | zero =>
    intro j T Z F f f' h sr hj hf hf' hT hZ hF p p2 eb ez ha
    obtain ⟨f, rfl⟩ : ∃ q, f = q + 1 := ⟨f - 1, by omega⟩
    obtain ⟨f', rfl⟩ : ∃ q, f' = q + 1 := ⟨f' - 1, by omega⟩
    obtain rfl : j = n := by omega
    refine ⟨h, sr, ?_, ?_, ⟨rfl, fun y _ _ => Eqa.rf h y⟩, But1.rf _ sr⟩
    · rw [pX10_stallsAlone_l19, pX10_stallsAlone_b19, if_pos (nI_le (Nat.le_refl _) (by omega)), ez]; rfl
    · rw [pX13_alone_l34, pX13_alone_b34, if_pos (nI_le (Nat.le_refl _) (by omega))]; rfl
  | succ d ih =>
    intro j T Z F f f' h sr hj hf hf' hT hZ hF p p2 eb ez ha
    obtain ⟨f, rfl⟩ : ∃ q, f = q + 1 := ⟨f - 1, by omega⟩
    obtain ⟨f', rfl⟩ : ∃ q, f' = q + 1 := ⟨f' - 1, by omega⟩
    have hsj : st * j ≤ 64 * 64 := Nat.mul_le_mul hs (by omega)
    have ex : nI w + nI st * nI j = nI (w + st * j) := by rw [pk_mul, nI_add]
    have e64 : nI (w + st * j) - nI (w + st * j) / 64 * 64 = nI ((w + st * j) % 64) := bank_nI (m := 64) (by omega) (by decide) (by decide)
    have hy64 : (w + st * j) % 64 < 64 := Nat.mod_lt _ (by decide)
    have ebk : nI ((w + st * j) % 64) - nI ((w + st * j) % 64) / nI m * nI m = nI ((w + st * j) % 64 % m) := bank_nI (by omega) (by omega) (by omega)
    have hk : (w + st * j) % 64 % m < m := Nat.mod_lt _ (by omega)
    have hnm : ¬ nI m = 0 := fun z => by
      have := congrArg Int32.toInt z
      rw [nI_toInt (by omega), show (0 : Int32).toInt = 0 from rfl] at this
      omega
    have eal : alN m b w st (d + 1) j T Z F = alN m b w st d (j + 1) (max T (F ((w + st * j) % 64 % m)) + 1) (Z + (max T (F ((w + st * j) % 64 % m)) - T)) (ud F ((w + st * j) % 64 % m) (max T (F ((w + st * j) % 64 % m)) + b)) := rfl
    generalize hK : (w + st * j) % 64 % m = k at *
    have hFk := hF k
    obtain ⟨u1, u2⟩ := ha k (by omega)
    generalize hx : max T (F k) = x at *
    have hxb : x ≤ 13 * j + 12 ∧ T ≤ x := by omega
    have exT : nI x - nI T = nI (x - T) := pk_sub hxb.2
    have mx : pJ9_max_7cf53 (nI T) (nI (F k)) = nI x := by rw [max_nI (by omega) (by omega), hx]
    -- the class's step
    have cs : pX10_throughBank g h (B + 176) (nI T) (nI k) (nI b) = some (nI x, sI (sI h (B + 176) 1 (nI (Z + (x - T)))) (B + 182) k (nI (x + b))) := by
      unfold pX10_throughBank
      rw [w_tg (st_176 S), if_neg (nI_pos (by omega)), w_lt, pc_176_16 p, w_nn, w_tg (st_182 S), sl_182 S, if_pos (show nI k < Int32.ofNat 16 from nI_lt (b := 16) (by omega) (by decide)), w_lt, w_nn, w_tg (st_182 S), sl_182 S, w_ix (show k < 16 by omega) (by decide), w_lt, nI_clamp (by omega), u1, mx, w_lt, ez, exT, nI_add, w_lt, show hR (sI h (B + 176) 1 (nI (Z + (x - T)))) (B + 176) 16 = some (B + 182) from pc_176_16 p, w_nn, w_tg (st_182 S), sl_182 S, w_ix (show k < 16 by omega) (by decide), w_lt, nI_add]
    -- the reference's
    have rs : ∃ v : Int32, v = hI sr (B + 204) k + nI b ∧ nI Z + pJ9_max_7cf53 0 (v - nI T) = nI (Z + (x - T)) ∧ pJ9_max_7cf53 (nI T) v = nI x := by
      refine ⟨_, rfl, ?_⟩
      rcases u2 with ⟨g1, g2⟩ | ⟨g1, g2⟩
      · have xT : x = T := by rw [g1] at hx; omega
        have vi : (hI sr (B + 204) k + nI b).toInt = (b : Int) - 12 := by
          rw [g2, Int32.toInt_add, nI_toInt (by omega), show (-12 : Int32).toInt = -12 from rfl, Int.bmod_eq_of_le (by omega) (by omega)]; omega
        generalize hI sr (B + 204) k + nI b = v at vi
        have vT : (v - nI T).toInt = (b : Int) - 12 - T := by rw [Int32.toInt_sub, vi, nI_toInt (by omega), Int.bmod_eq_of_le (by omega) (by omega)]
        constructor
        · unfold pJ9_max_7cf53
          rw [if_neg (by rw [Int32.lt_iff_toInt_lt, vT, show (0 : Int32).toInt = 0 from rfl]; omega), xT, Nat.sub_self, Nat.add_zero, Int32.add_zero]
        · unfold pJ9_max_7cf53
          rw [if_neg (by rw [Int32.lt_iff_toInt_lt, vi, nI_toInt (by omega)]; omega), xT]
      · have ve : hI sr (B + 204) k + nI b = nI (F k) := by rw [g2, nI_add]; congr 1; omega
        rw [ve]
        refine ⟨?_, mx⟩
        by_cases c : T ≤ F k
        · have : x = F k := by omega
          rw [pk_sub c, show (0 : Int32) = nI 0 from rfl, max_nI (by omega) (by omega), nI_add]
          congr 1
          omega
        · have xT : x = T := by omega
          have vT : (nI (F k) - nI T).toInt = (F k : Int) - T := by rw [Int32.toInt_sub, nI_toInt (by omega), nI_toInt (by omega), Int.bmod_eq_of_le (by omega) (by omega)]
          unfold pJ9_max_7cf53
          rw [if_neg (by rw [Int32.lt_iff_toInt_lt, vT, show (0 : Int32).toInt = 0 from rfl]; omega), xT, Nat.sub_self, Nat.add_zero, Int32.add_zero]
    obtain ⟨v, v1, v2, v3⟩ := rs
    have eT1 : (nI T - 1 + 1 : Int32) = nI T := Int32.sub_add_cancel _ _
    have ex1 : (nI (x + 1) - 1 : Int32) = nI x := pk_sub (a := x + 1) (b := 1) (by omega)
    obtain ⟨h', sr', r1, r2, r3, r4⟩ := ih (j + 1) (x + 1) (Z + (x - T)) (ud F k (x + b)) f f' (sI (sI h (B + 176) 1 (nI (Z + (x - T)))) (B + 182) k (nI (x + b))) (sI sr (B + 204) k (nI x)) (by omega) (by omega) (by omega) (by omega) (by omega) (fun i => by
        unfold ud
        split
        · omega
        · have := hF i; omega) p p2 (by rw [hI_sI, if_neg (by omega)]; exact eb) (by rw [hI_sI, if_neg (by omega)]; exact hI_s _ _ _ _) (fun i hi => by
        rw [hI_sI, if_pos rfl, hI_sI, if_neg (by omega), hI_sI (h := sr), if_pos rfl]
        by_cases e : i = k
        · rw [e, ud_s, ud_s, ud_s]; exact ⟨rfl, Or.inr ⟨by omega, by rw [Nat.add_sub_cancel]⟩⟩
        · rw [ud_n e, ud_n e, ud_n e]; exact ha i hi)
    refine ⟨h', sr', ?_, ?_, ⟨r3.1, fun y y1 y2 => (((Eqa.rf h y).sI y1).sI y2).tr (r3.2 y y1 y2)⟩, ⟨r4.1, fun y y1 => ((Eqa.rf sr y).sI y1).tr (r4.2 y y1)⟩⟩
    · rw [pX10_stallsAlone_l19, pX10_stallsAlone_b19, if_neg (nI_ge (show j < n by omega) (by omega)), if_neg (show ¬ nI m ≤ 0 from nI_ge (a := 0) (b := m) (by omega) (by omega)), w_dvI hnm, ex, e64, ebk, cs, w_bd2, w_lt, nI_1, w_lt, nI_1, eal]
      exact r1
    · rw [pX13_alone_l34, pX13_alone_b34, if_neg (nI_ge (show j < n by omega) (by omega)), w_dvI hnm, w_lt, ex, e64, ebk, w_lt, pr_187_50 p2, w_nn, w_tg (st_204 S), sl_204 S, w_ix (show k < 16 by omega) (by decide), w_lt, pr_187_19 p2, w_nn, w_tg (st_192 S), sl_192 S]
      rw [show (2 : Int32) = nI 2 from rfl, w_ix (show 2 < 1476 by decide) (by decide), w_lt, nI_clamp (show k < 2 ^ 31 by omega), nI_clamp (show 2 < 2 ^ 31 by decide), eb, ← v1, w_lt, eT1, w_lt, v2, w_lt, v3, w_lt, w_nn, w_tg (st_204 S), sl_204 S, w_ix (show k < 16 by omega) (by decide), w_lt, w_lt, nI_1, eal, ← ex1]
      rw [← ex1] at r2
      exact r2
/-- the stalls of one alone: the same in both, whatever the heaps hold -/
theorem alone_both (S : Sh B g) {m b w st n : Nat} (m0 : 1 ≤ m) (m1 : m ≤ 16) (b0 : 1 ≤ b) (b1 : b ≤ 12) (hw : w < 64) (hs : st ≤ 64) (hn : n ≤ 64) {h sr : CT} (p : PtC B (hR h)) (p2 : PtR B (hR sr)) (eb : hI sr (B + 192) 2 = nI b) :
    ∃ h' sr', pX10_stallsAlone g h (B + 176) (nI w) (nI st) (nI n) (nI m) (nI b) = some (nI (alN m b w st n 0 0 0 fun _ => 0), h') ∧ pX13_alone g sr (B + 187) (nI w) (nI st) (nI n) (nI m) = some (nI (alN m b w st n 0 0 0 fun _ => 0), sr')
      ∧ (hR h' = hR h ∧ ∀ y, y ≠ B + 176 → y ≠ B + 182 → Eqa h h' y) ∧ But1 (B + 204) sr sr' := by
  obtain ⟨h1, a1, a2, a3, a4, a5⟩ := fillI (h := h) (v := 0) (st_182 S) (sl_182 S) (by decide)
  -- the reference sets them to -12
  have fl : ∃ s1, pX13_alone_l3 g (B + 187) (nI w) (nI st) (nI n) (nI m) FUEL 0 sr = pX13_alone_l34 g (B + 187) (nI w) (nI st) (nI n) (nI m) FUEL (-1) 0 0 s1 ∧ But1 (B + 204) sr s1 ∧ ∀ k, k < 16 → hI s1 (B + 204) k = -12 := by
    have key : ∀ (d j f : Nat) (s : CT), j + d = 16 → d < f → But1 (B + 204) sr s → (∀ k, k < j → hI s (B + 204) k = -12) → ∃ s1, pX13_alone_l3 g (B + 187) (nI w) (nI st) (nI n) (nI m) f (nI j) s = pX13_alone_l34 g (B + 187) (nI w) (nI st) (nI n) (nI m) FUEL (-1) 0 0 s1 ∧ But1 (B + 204) sr s1 ∧ ∀ k, k < 16 → hI s1 (B + 204) k = -12 := by
      intro d
      induction d with
      | zero =>
        intro j f s hj hf hb hv
        obtain ⟨f, rfl⟩ : ∃ q, f = q + 1 := ⟨f - 1, by omega⟩
        obtain rfl : j = 16 := by omega
        exact ⟨s, by rw [pX13_alone_l3, pX13_alone_b3, if_pos (by decide)], hb, hv⟩
      | succ d ih =>
        intro j f s hj hf hb hv
        obtain ⟨f, rfl⟩ : ∃ q, f = q + 1 := ⟨f - 1, by omega⟩
        obtain ⟨s1, q1, q2, q3⟩ := ih (j + 1) f (sI s (B + 204) j (-12)) (by omega) (by omega) hb.stI (fun k hk => by
          rw [hI_sI, if_pos rfl]
          by_cases e : k = j
          · rw [e, ud_s]
          · rw [ud_n e]; exact hv k (by omega))
        refine ⟨s1, ?_, q2, q3⟩
        rw [pX13_alone_l3, pX13_alone_b3, if_neg (show ¬ (16 : Int32) ≤ nI j from nI_ge (b := 16) (by omega) (by decide)), w_lt, hb.1, pr_187_50 p2, w_nn, w_tg (st_204 S), sl_204 S, w_ix (show j < 16 by omega) (by decide), w_lt, nI_clamp (by omega), w_lt, nI_1]
        exact q1
    exact key 16 0 FUEL sr (by omega) (by decide) (But1.rf _ sr) (fun k hk => by omega)
  obtain ⟨s1, c1, c2, c3⟩ := fl
  have e1 : hR (sI h1 (B + 176) 1 0) = hR h := a2.1
  obtain ⟨h2, s2, d1, d2, d3, d4⟩ := alo_loop (h := sI h1 (B + 176) 1 0) (sr := s1) S m0 m1 b0 b1 hw hs hn n 0 0 0 (fun _ => 0) FUEL FUEL (by omega) (by unfold FUEL; omega) (by unfold FUEL; omega) (by omega) (by omega) (fun k => by omega) (by rw [e1]; exact p) (by rw [c2.1]; exact p2) (by rw [(c2.2 (B + 192) (by omega)).1]; exact eb) (hI_s _ _ _ _) (fun k hk => ⟨by rw [hI_sI, if_neg (by omega)]; exact a5 k hk, Or.inl ⟨rfl, c3 k hk⟩⟩)
  refine ⟨h2, s2, ?_, ?_, ⟨d3.1.trans e1, fun y y1 y2 => ((a2.2 y y2).sI y1).tr (d3.2 y y1 y2)⟩, ⟨d4.1.trans c2.1, fun y y1 => (c2.2 y y1).tr (d4.2 y y1)⟩⟩
  · unfold pX10_stallsAlone
    rw [w_tg (st_176 S), w_lt, pc_176_16 p, w_nn, a1, w_bd, w_lt]
    exact d1
  · unfold pX13_alone
    rw [w_tg (st_187 S), c1]
    exact d2
theorem al_le {m b w st : Nat} (b1 : b ≤ 12) : ∀ (d j T Z : Nat) (F : Nat → Nat), T ≤ 13 * j → Z ≤ 900 * j → (∀ k, F k ≤ 13 * j + 12) → j + d ≤ 64 → alN m b w st d j T Z F ≤ 900 * (j + d) := by
  intro d
  induction d with
  | zero => intro j T Z F _ hZ _ _; exact hZ
  | succ d ih =>
    intro j T Z F hT hZ hF hj
    have hk := hF ((w + st * j) % 64 % m)
    have := ih (j + 1) (max T (F ((w + st * j) % 64 % m)) + 1) (Z + (max T (F ((w + st * j) % 64 % m)) - T)) (ud F ((w + st * j) % 64 % m) (max T (F ((w + st * j) % 64 % m)) + b)) (by omega) (by omega) (fun i => by
      unfold ud
      split
      · omega
      · have := hF i; omega) (by omega)
    rw [show j + 1 + d = j + (d + 1) by omega] at this
    exact this
end ALO
