/-! pour -/
section POR
variable {B : Nat} {E : EC} {op : Nat → Nat} {g : MT} {hc hr hc' hr' : CT}
/-- the way the reference goes: up, or down -/
def pix (l : Int32) (n j : Nat) : Nat := if l = 0 then j else n - 1 - j
theorem por_loop (S : Sh B g) (p2 : PtR B (hR hr)) {t u a b n : Nat} {l : Int32} (ht : t < 4) (hu : u < 4) (ha : a + n ≤ 60) (hb : b + n ≤ 60) (no : ∀ j k, k < j → j < n → 60 * u + b + pix l n k ≠ 60 * t + a + pix l n j) :
    ∃ h', pX13_pour_l158 g (B + 187) (nI t) (nI a) (nI u) (nI b) (nI n) FUEL l 0 hr = some (1, h') ∧ But1 (B + 190) hr h' ∧ hI h' = hI hr ∧ (∀ j, j < n → hL h' (B + 190) (60 * u + b + pix l n j) = hL hr (B + 190) (60 * t + a + pix l n j)) ∧ ∀ x, (x < 60 * u + b ∨ 60 * u + b + n ≤ x) → hL h' (B + 190) x = hL hr (B + 190) x := by
  have pl : ∀ j, j < n → pix l n j < n := fun j hj => by unfold pix; split <;> omega
  have pinj : ∀ j k, j < n → k < n → pix l n j = pix l n k → j = k := fun j k hj hk e => by unfold pix at e; split at e <;> omega
  have := loopN (L := fun f j s => pX13_pour_l158 g (B + 187) (nI t) (nI a) (nI u) (nI b) (nI n) f l (nI j) s) (N := n)
    (Inv := fun j s => But1 (B + 190) hr s ∧ hI s = hI hr ∧ (∀ i, i < j → hL s (B + 190) (60 * u + b + pix l n i) = hL hr (B + 190) (60 * t + a + pix l n i)) ∧ (∀ x, (∀ i, i < j → x ≠ 60 * u + b + pix l n i) → hL s (B + 190) x = hL hr (B + 190) x))
    (Post := fun r => r.1 = 1 ∧ But1 (B + 190) hr r.2 ∧ hI r.2 = hI hr ∧ (∀ j, j < n → hL r.2 (B + 190) (60 * u + b + pix l n j) = hL hr (B + 190) (60 * t + a + pix l n j)) ∧ ∀ x, (x < 60 * u + b ∨ 60 * u + b + n ≤ x) → hL r.2 (B + 190) x = hL hr (B + 190) x) (fun f j s hj H => by
    obtain ⟨h1, h2, h3, h4⟩ := H
    have e6 : hR s (B + 187) 6 = some (B + 190) := by rw [h1.1]; exact pr_187_6 p2
    have hp := pl j hj
    have es : hL s (B + 190) (60 * t + a + pix l n j) = hL hr (B + 190) (60 * t + a + pix l n j) := h4 _ fun i hi e => no j i hi hj e.symm
    refine ⟨sL s (B + 190) (60 * u + b + pix l n j) (hL s (B + 190) (60 * t + a + pix l n j)), ?_, h1.stL, h2, fun i hi => ?_, fun x hx => ?_⟩
    · show pX13_pour_l158 g (B + 187) (nI t) (nI a) (nI u) (nI b) (nI n) (f + 1) l (nI j) s = _
      have ei : ∀ (t a k : Nat), (60 * nI t + nI a + nI k : Int32) = nI (60 * t + a + k) := fun t a k => by rw [show (60 : Int32) = nI 60 from rfl, pk_mul, nI_add, nI_add]
      have go : pX13_pour_b182 g (B + 187) (nI t) (nI a) (nI u) (nI b) (nI n) (pX13_pour_l158 g (B + 187) (nI t) (nI a) (nI u) (nI b) (nI n) f) l (nI j) (nI (pix l n j)) s = pX13_pour_l158 g (B + 187) (nI t) (nI a) (nI u) (nI b) (nI n) f l (nI (j + 1)) (sL s (B + 190) (60 * u + b + pix l n j) (hL s (B + 190) (60 * t + a + pix l n j))) := by
        unfold pX13_pour_b182
        simp only [w_lt, e6, w_nn, w_tg (st_190 S), sl_190 S, ei, w_ix (show 60 * t + a + pix l n j < 240 by omega) (show 240 < 2 ^ 31 by decide), w_ix (show 60 * u + b + pix l n j < 240 by omega) (show 240 < 2 ^ 31 by decide), nI_clamp (show 60 * t + a + pix l n j < 2 ^ 31 by omega), nI_clamp (show 60 * u + b + pix l n j < 2 ^ 31 by omega), nI_1]
      rw [pX13_pour_l158, pX13_pour_b158, if_neg (nI_ge hj (by omega)), ← go]
      by_cases c : l = 0
      · rw [if_pos c]; unfold pix; rw [if_pos c]
      · have e1 : (nI n - 1 - nI j : Int32) = nI (pix l n j) := by
          unfold pix
          rw [if_neg c, show (nI n - 1 : Int32) = nI (n - 1) from pk_sub (a := n) (b := 1) (by omega), pk_sub (by omega)]
        rw [if_neg c, e1]
    · rw [hL_sL, if_pos rfl]
      by_cases e : i = j
      · rw [e, ud_s, es]
      · rw [ud_n (fun z => e (pinj i j (by omega) hj (by omega)))]
        exact h3 i (by omega)
    · rw [hL_sL, if_pos rfl, ud_n (hx j (by omega))]
      exact h4 x fun i hi => hx i (by omega)) (fun f s H => ⟨(1, s), by
    show pX13_pour_l158 g (B + 187) (nI t) (nI a) (nI u) (nI b) (nI n) (f + 1) l (nI n) s = _
    rw [pX13_pour_l158, pX13_pour_b158, if_pos (nI_le (Nat.le_refl n) (by omega))], rfl, H.1, H.2.1, H.2.2.1, fun x hx => H.2.2.2 x fun i hi => by have := pl i hi; omega⟩) n 0 FUEL hr (by omega) (by unfold FUEL; omega) ⟨But1.rf _ hr, rfl, fun i h1 => by omega, fun x _ => rfl⟩
  obtain ⟨⟨x, h'⟩, q1, rfl, q2⟩ := this
  exact ⟨h', q1, q2⟩
theorem holds_val {a m : Nat} {p q : Int32} {h : CT} (T : gT g a = 10) (f : hI h a 2 = nI m) (hm : m ≤ 60) (hq : 0 ≤ q.toInt) : pX11_holds g h a p q = some (if 0 ≤ p.toInt ∧ p.toInt + q.toInt ≤ m then 1 else 0) := by
  unfold pX11_holds
  rw [w_tg T, f]
  have z0 : (0 : Int32).toInt = 0 := rfl
  by_cases c1 : p < 0
  · rw [if_pos c1, if_neg]
    rw [Int32.lt_iff_toInt_lt, z0] at c1; omega
  · rw [if_neg c1, if_neg (by rw [Int32.lt_iff_toInt_lt, z0]; omega)]
    rw [Int32.lt_iff_toInt_lt, z0] at c1
    by_cases c2 : nI m < q
    · rw [if_pos c2, if_neg]
      rw [Int32.lt_iff_toInt_lt, nI_toInt (by omega)] at c2; omega
    · rw [if_neg c2]
      rw [Int32.lt_iff_toInt_lt, nI_toInt (by omega)] at c2
      have e : (nI m - q).toInt = (m : Int) - q.toInt := by
        rw [Int32.toInt_sub, nI_toInt (by omega), Int.bmod_eq_of_le (by omega) (by omega)]
      by_cases c3 : nI m - q < p
      · rw [if_pos c3, if_neg]
        rw [Int32.lt_iff_toInt_lt, e] at c3; omega
      · rw [if_neg c3, if_pos]
        rw [Int32.lt_iff_toInt_lt, e] at c3; omega
theorem wide_sum {p q : Int32} {m : Nat} (hm : m ≤ 60) : (lg_cmp (Int32.toInt64 p + Int32.toInt64 q) (Int32.toInt64 (nI m)) ≤ 0) = (p.toInt + q.toInt ≤ m) ∧ (0 < lg_cmp (Int32.toInt64 p + Int32.toInt64 q) (Int32.toInt64 (nI m))) = ((m : Int) < p.toInt + q.toInt) := by
  have a1 := p.toInt_lt
  have a2 := p.le_toInt
  have b1 := q.toInt_lt
  have b2 := q.le_toInt
  rw [lgc_le, lgc_gt, Int64.toInt_add, Int32.toInt_toInt64, Int32.toInt_toInt64, Int32.toInt_toInt64, nI_toInt (by omega), Int.bmod_eq_of_le (by omega) (by omega)]
  exact ⟨rfl, rfl⟩
theorem C_pour : K_pour B E op := by
  intro p1' p2' p3' p4' p5' g hc hr H
  have S := H.1
  have p1 := H.2.1
  have p2 := H.2.2.1
  have z0 : (0 : Int32).toInt = 0 := rfl
  have r3 := H.2.2.2.2.2.1
  have eT : ∀ x, pX12_isTray x = pX12_within x 0 (nI 3) := fun _ => rfl
  have b1 : pX12_pour_b14 g B p1' p2' p3' p4' p5' hc = some (0, sI hc B 19 1) := by unfold pX12_pour_b14; rw [k_deny S]; rfl
  have b3 : pX12_pour_b52 g B p1' p2' p3' p4' p5' hc = some (0, sI hc B 19 3) := by unfold pX12_pour_b52; rw [k_deny S]; rfl
  have b4 : pX12_pour_b113 g B p1' p2' p3' p4' p5' hc = some (0, sI hc B 19 4) := by unfold pX12_pour_b113; rw [k_deny S]; rfl
  have d1 : pX13_pour_b28 g (B + 187) p1' p2' p3' p4' p5' (sI (sI hr (B + 187) 1 0) (B + 187) 0 0) = some (0, sI (sI hr (B + 187) 1 0) (B + 187) 0 1) := by unfold pX13_pour_b28; rw [m_no S, sI_sI]; rfl
  have d3 : pX13_pour_b52 g (B + 187) p1' p2' p3' p4' p5' (sI (sI hr (B + 187) 1 0) (B + 187) 0 0) = some (0, sI (sI hr (B + 187) 1 0) (B + 187) 0 3) := by unfold pX13_pour_b52; rw [m_no S, sI_sI]; rfl
  have d4 : pX13_pour_b136 g (B + 187) p1' p2' p3' p4' p5' (sI (sI hr (B + 187) 1 0) (B + 187) 0 0) = some (0, sI (sI hr (B + 187) 1 0) (B + 187) 0 4) := by unfold pX13_pour_b136; rw [m_no S, sI_sI]; rfl
  have z8 : hI (sI (sI hr (B + 187) 1 0) (B + 187) 0 0) (B + 188) = hI hr (B + 188) := by rw [hI_sI, if_neg (by omega), hI_sI, if_neg (by omega)]
  have z9 : hI (sI (sI hr (B + 187) 1 0) (B + 187) 0 0) (B + 189) = hI hr (B + 189) := by rw [hI_sI, if_neg (by omega), hI_sI, if_neg (by omega)]
  have g4 : hR (sI (sI hr (B + 187) 1 0) (B + 187) 0 0) (B + 187) 4 = some (B + 188) := pr_187_4 p2
  have g5 : hR (sI (sI hr (B + 187) 1 0) (B + 187) 0 0) (B + 187) 5 = some (B + 189) := pr_187_5 p2
  rcases within_0 p1' 3 (by decide) with ⟨e1, f1⟩ | ⟨e1, t, ht, rfl⟩
  · refine ⟨0, _, _, by simp only [pX12_pour, w_tg (st_0 S), eT, if_pos e1, b1], ?_, H.stat 1 0⟩
    simp only [pX13_pour, w_tg (st_187 S), w_lt]
    rcases f1 with f1 | f1
    · rw [if_pos f1, d1]
    · obtain ⟨c1, c2⟩ := gt_ge (by decide) f1
      rw [if_neg c1, if_pos (show 4 ≤ p1' from c2), d1]
  have e1' : ¬ pX12_within (nI t) 0 (nI 3) = 0 := by rw [e1]; decide
  have t1 : ¬ nI t < 0 := nI_pos (by omega)
  have t2 : ¬ 4 ≤ nI t := nI_ge (b := 4) (by omega) (by decide)
  rcases within_0 p3' 3 (by decide) with ⟨e3, f3⟩ | ⟨e3, u, hu, rfl⟩
  · refine ⟨0, _, _, by simp only [pX12_pour, w_tg (st_0 S), eT, if_neg e1', if_pos e3, b1], ?_, H.stat 1 0⟩
    simp only [pX13_pour, w_tg (st_187 S), w_lt, if_neg t1, if_neg t2]
    rcases f3 with f3 | f3
    · rw [if_pos f3, d1]
    · obtain ⟨c1, c2⟩ := gt_ge (by decide) f3
      have c3 : ¬ p3' < 4 := fun z => by
        rw [Int32.lt_iff_toInt_lt] at z
        rw [Int32.le_iff_toInt_le, nI_toInt (by decide)] at c2
        have : (4 : Int32).toInt = 4 := rfl
        omega
      rw [if_neg c1, if_neg c3, d1]
  have e3' : ¬ pX12_within (nI u) 0 (nI 3) = 0 := by rw [e3]; decide
  have u1 : ¬ nI u < 0 := nI_pos (by omega)
  have u2 : nI u < 4 := nI_lt (b := 4) (by omega) (by decide)
  have ht4 : t < 4 := by omega
  have hu4 : u < 4 := by omega
  obtain ⟨q1, q2, q3, q4, q5⟩ := trayA S p1 ht4
  obtain ⟨v1, v2, v3, v4, v5⟩ := trayA S p1 hu4
  obtain ⟨k1, k2, k3⟩ := r3 t ht4
  obtain ⟨l1, l2, l3⟩ := r3 u hu4
  have cl : pX12_pour g hc B (nI t) p2' (nI u) p4' p5' = if hI hc (B + 2 + 2 * t) 0 = 0 then some (0, sI hc B 19 3) else if hI hc (B + 2 + 2 * u) 0 = 0 then some (0, sI hc B 19 3) else if hI hc (B + 2 + 2 * t) 1 = hI hc (B + 2 + 2 * u) 1 then if 0 ≤ p5' then bd (pX11_holds g hc (B + 2 + 2 * t) p2' p5') fun x17 => (if x17 = 0 then some (0, sI hc B 19 4) else bd (pX11_holds g hc (B + 2 + 2 * u) p4' p5') fun x20 => (if x20 = 0 then some (0, sI hc B 19 4) else cpk p2' p4' p5' 60 60 (some (1, sI (cpL hc (B + 2 + 2 * t + 1) (B + 2 + 2 * u + 1) (Int32.toNatClampNeg p2') (Int32.toNatClampNeg p4') (Int32.toNatClampNeg p5')) B 19 0)))) else some (0, sI hc B 19 6) else some (0, sI hc B 19 11) := by
    simp only [pX12_pour, w_tg (st_0 S), eT, if_neg e1', if_neg e3', w_lt, pc_0_0 p1, w_nn, w_tg (st_1 S), sl_1 S, w_ix ht4 (show 4 < 2 ^ 31 by decide), w_ix hu4 (show 4 < 2 ^ 31 by decide), nI_clamp (show t < 2 ^ 31 by omega), nI_clamp (show u < 2 ^ 31 by omega), q1, v1, w_tg q2, w_tg v2, b3, b4, q3, v3, w_tg q4, w_tg v4, q5, v5, k_deny S, k_agree S, w_bd2]
    rfl
  have rf : pX13_pour g hr (B + 187) (nI t) p2' (nI u) p4' p5' = if hI hr (B + 189) t < 0 then some (0, sI (sI hr (B + 187) 1 0) (B + 187) 0 3) else if 0 ≤ hI hr (B + 189) u then if hI hr (B + 188) t = hI hr (B + 188) u then if 0 ≤ p5' then if p2' < 0 then some (0, sI (sI hr (B + 187) 1 0) (B + 187) 0 4) else if p4' < 0 then some (0, sI (sI hr (B + 187) 1 0) (B + 187) 0 4) else if 0 < lg_cmp (Int32.toInt64 p2' + Int32.toInt64 p5') (Int32.toInt64 (hI hr (B + 189) t)) then some (0, sI (sI hr (B + 187) 1 0) (B + 187) 0 4) else if lg_cmp (Int32.toInt64 p4' + Int32.toInt64 p5') (Int32.toInt64 (hI hr (B + 189) u)) ≤ 0 then pX13_pour_l158 g (B + 187) (nI t) p2' (nI u) p4' p5' FUEL (if p4' ≤ p2' then 0 else 1) 0 (sI (sI hr (B + 187) 1 0) (B + 187) 0 0) else some (0, sI (sI hr (B + 187) 1 0) (B + 187) 0 4) else some (0, sI (sI hr (B + 187) 1 0) (B + 187) 0 6) else some (0, sI (sI hr (B + 187) 1 0) (B + 187) 0 11) else some (0, sI (sI hr (B + 187) 1 0) (B + 187) 0 3) := by
    simp only [pX13_pour, w_tg (st_187 S), w_lt, if_neg t1, if_neg t2, if_neg u1, if_pos u2, g5, g4, w_nn, w_tg (st_189 S), w_tg (st_188 S), sl_189 S, sl_188 S, w_ix ht4 (show 4 < 2 ^ 31 by decide), w_ix hu4 (show 4 < 2 ^ 31 by decide), nI_clamp (show t < 2 ^ 31 by omega), nI_clamp (show u < 2 ^ 31 by omega), z8, z9, d3, d4, m_no S, sI_sI, w_bd2, w_bz0]
    by_cases c : p4' ≤ p2'
    · simp only [if_pos c]; rfl
    · simp only [if_neg c]; rfl
  show ∃ r hc' hr', pX12_pour g hc B (nI t) p2' (nI u) p4' p5' = _ ∧ pX13_pour g hr (B + 187) (nI t) p2' (nI u) p4' p5' = _ ∧ _
  rw [cl, rf]
  rcases k1 with k1 | k1
  · refine ⟨0, _, _, by rw [if_pos k1], by rw [if_pos (by rw [k2 k1]; decide)], H.stat 3 0⟩
  obtain ⟨m, s, y1, y2, y3, y4, y5, y6, y7⟩ := k3 k1
  have ym : ¬ nI m < 0 := nI_pos (by omega)
  rw [if_neg (by rw [k1]; decide), y4, if_neg ym]
  rcases l1 with l1 | l1
  · refine ⟨0, _, _, by rw [if_pos l1], by rw [if_neg (by rw [l2 l1]; decide)], H.stat 3 0⟩
  obtain ⟨m', s', x1, x2, x3, x4, x5, x6, x7⟩ := l3 l1
  rw [if_neg (by rw [l1]; decide), x4, if_pos (nI_pos' (show m' < 2 ^ 31 by omega)), y5, y6, x5, x6]
  by_cases c1 : nI s = nI s'
  rotate_left
  · rw [if_neg c1, if_neg c1]; exact ⟨0, _, _, rfl, rfl, H.stat 11 0⟩
  rw [if_pos c1, if_pos c1]
  by_cases c2 : 0 ≤ p5'
  rotate_left
  · rw [if_neg c2, if_neg c2]; exact ⟨0, _, _, rfl, rfl, H.stat 6 0⟩
  rw [if_pos c2, if_pos c2]
  rw [Int32.le_iff_toInt_le, z0] at c2
  rw [holds_val q2 y3 y1 c2, holds_val v2 x3 x1 c2, w_bd]
  simp only [w_bd, (wide_sum (p := p2') (q := p5') y1).2, (wide_sum (p := p4') (q := p5') x1).1]
  by_cases c3 : 0 ≤ p2'.toInt ∧ p2'.toInt + p5'.toInt ≤ m
  rotate_left
  · refine ⟨0, _, _, by rw [if_pos (by rw [if_neg c3])], ?_, H.stat 4 0⟩
    by_cases n1 : p2' < 0
    · rw [if_pos n1]
    · rw [if_neg n1]
      by_cases n2 : p4' < 0
      · rw [if_pos n2]
      · rw [if_neg n2, if_pos (by rw [Int32.lt_iff_toInt_lt, z0] at n1; omega)]
  rw [if_neg (by rw [if_pos c3]; decide), if_neg (show ¬ p2' < 0 by rw [Int32.lt_iff_toInt_lt, z0]; omega)]
  by_cases c4 : 0 ≤ p4'.toInt ∧ p4'.toInt + p5'.toInt ≤ m'
  rotate_left
  · refine ⟨0, _, _, by rw [if_pos (by rw [if_neg c4])], ?_, H.stat 4 0⟩
    by_cases n2 : p4' < 0
    · rw [if_pos n2]
    · rw [if_neg n2, if_neg (by omega), if_neg (by rw [Int32.lt_iff_toInt_lt, z0] at n2; omega)]
  rw [if_neg (by rw [if_pos c4]; decide), if_neg (show ¬ p4' < 0 by rw [Int32.lt_iff_toInt_lt, z0]; omega), if_neg (by omega), if_pos (by omega)]
  obtain ⟨a, ha⟩ : ∃ a : Nat, p2'.toInt = a := ⟨p2'.toInt.toNat, by omega⟩
  obtain ⟨b, hb⟩ : ∃ b : Nat, p4'.toInt = b := ⟨p4'.toInt.toNat, by omega⟩
  obtain ⟨n, hn⟩ : ∃ n : Nat, p5'.toInt = n := ⟨p5'.toInt.toNat, by omega⟩
  obtain rfl : p2' = nI a := Int32.toInt_inj.mp (by rw [nI_toInt (by omega)]; exact ha)
  obtain rfl : p4' = nI b := Int32.toInt_inj.mp (by rw [nI_toInt (by omega)]; exact hb)
  obtain rfl : p5' = nI n := Int32.toInt_inj.mp (by rw [nI_toInt (by omega)]; exact hn)
  have hle : (nI b ≤ nI a) ↔ b ≤ a := by rw [Int32.le_iff_toInt_le, ha, hb]; omega
  obtain ⟨h', w1, w2, w3, w4, w5⟩ := por_loop (hr := sI (sI hr (B + 187) 1 0) (B + 187) 0 0) S p2 (t := t) (u := u) (a := a) (b := b) (n := n) (l := if nI b ≤ nI a then 0 else 1) ht4 hu4 (by omega) (by omega) (fun j k hk hj => by
    unfold pix
    by_cases c : b ≤ a
    · rw [if_pos (hle.mpr c), if_pos rfl, if_pos rfl]; omega
    · rw [if_neg (fun z => c (hle.mp z)), if_neg (by decide), if_neg (by decide)]; omega)
  refine ⟨1, _, _, ?_, w1, H.tra0 hu4 (h1 := cpL hc (B + 2 + 2 * t + 1) (B + 2 + 2 * u + 1) a b n) (fun x x1 x2 => (Eqa.rf hc x).cpL (by omega)) (fun x x1 x2 x3 => w2.2 x x3) rfl (by rw [w2.1]; rfl) ?_⟩
  · unfold cpk
    rw [nI_clamp (show a < 2 ^ 31 by omega), nI_clamp (show b < 2 ^ 31 by omega), nI_clamp (show n < 2 ^ 31 by omega), if_pos ⟨nI_pos (by omega), nI_pos (by omega), nI_pos (by omega), by omega, by omega⟩]
  · have fin : ∀ i, i < n → hL h' (B + 190) (60 * u + b + i) = hL hr (B + 190) (60 * t + a + i) := fun i hi => by
      by_cases c : nI b ≤ nI a
      · have := w4 i hi
        unfold pix at this
        rw [if_pos c, if_pos rfl] at this
        exact this
      · have := w4 (n - 1 - i) (by omega)
        unfold pix at this
        rw [if_neg c, if_neg (by decide), show n - 1 - (n - 1 - i) = i by omega] at this
        exact this
    intro t' ht'
    obtain ⟨a1, a2, a3⟩ := r3 t' ht'
    rw [show hI (cpL hc (B + 2 + 2 * t + 1) (B + 2 + 2 * u + 1) a b n) = hI hc from rfl, w3, z8, z9]
    refine ⟨a1, a2, fun z => ?_⟩
    obtain ⟨m2, s2, i1, i2, i3, i4, i5, i6, i7⟩ := a3 z
    refine ⟨m2, s2, i1, i2, i3, i4, i5, i6, fun i hi => ?_⟩
    rw [hL_cpL]
    by_cases e : t' = u
    · subst e
      rw [if_pos (by omega)]
      unfold va_cpy
      by_cases c : b ≤ i ∧ i < b + n
      · rw [if_pos c, show 60 * t' + i = 60 * t' + b + (i - b) by omega, fin (i - b) (by omega), show B + 2 + 2 * t + 1 = B + 3 + 2 * t by omega, y7 _ (by omega), show 60 * t + (a + (i - b)) = 60 * t + a + (i - b) by omega]
      · rw [if_neg c, w5 _ (by omega), show B + 2 + 2 * t' + 1 = B + 3 + 2 * t' by omega]
        exact i7 i hi
    · rw [if_neg (by omega), w5 _ (by omega)]
      exact i7 i hi
end POR
