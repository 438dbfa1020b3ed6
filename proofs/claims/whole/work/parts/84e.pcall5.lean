/-! write, roundOf, partnerOf -/
section C6
variable {B : Nat} {E : EC} {op : Nat → Nat} {g : MT} {hc hr hc' hr' : CT}
theorem cut_trims {h : CT} {a : Nat} (T : gT g a = 10) (v : Int64) : pX11_cut g h a v = some (pX13_trims (hI h a 1) v) := by
  unfold pX11_cut pX13_trims
  rw [w_tg T, w_lt]
  split
  · rfl
  · split
    · rfl
    · split <;> rfl
theorem C_write : K_write B E op := by
  intro a b v g hc hr H
  have S := H.1
  have p1 := H.2.1
  have p2 := H.2.2.1
  have p2' : PtR B (hR (sI hr (B + 187) 1 0)) := p2
  have r3 : TraR B hc (sI hr (B + 187) 1 0) := (H.thr 0).2.2.2.2.2.1
  rcases tray_trouble S p1 p2' r3 a b with ⟨w, hw, e1, e2⟩ | ⟨t, k, m, s, ht, rfl, rfl, hk, hm, hs, f1, f2, f3, f4, f5, e1, e2⟩
  · obtain ⟨n1, n2⟩ := tray_v hw
    refine ⟨0, _, _, ?_, ?_, H.stat w 0⟩
    · simp only [pX12_write, w_tg (st_0 S), e1, w_bd, if_neg n1, k_deny S, w_bd2, w_bz0]
    · simp only [pX13_write, w_tg (st_187 S), w_lt, e2, w_bd, hI_s, if_neg n2]
  · obtain ⟨q1, q2, q3, q4, q5⟩ := trayA S p1 ht
    have ei : (60 * nI t + nI k : Int32) = nI (60 * t + k) := by rw [show (60 : Int32) = nI 60 from rfl, pk_mul, nI_add]
    have f5' : hI (sI (sI hr (B + 187) 1 0) (B + 187) 0 0) (B + 188) t = nI s := by
      rw [hI_sI, if_neg (by omega)]; exact f5
    have z8 : hI (sI (sI hr (B + 187) 1 0) (B + 187) 0 0) (B + 188) = hI hr (B + 188) := by rw [hI_sI, if_neg (by omega), hI_sI, if_neg (by omega)]
    have z9 : hI (sI (sI hr (B + 187) 1 0) (B + 187) 0 0) (B + 189) = hI hr (B + 189) := by rw [hI_sI, if_neg (by omega), hI_sI, if_neg (by omega)]
    refine ⟨1, sI (sL hc (B + 2 + 2 * t + 1) k (pX13_trims (nI s) v)) B 19 0, sL (sI (sI hr (B + 187) 1 0) (B + 187) 0 0) (B + 190) (60 * t + k) (pX13_trims (nI s) v), ?_, ?_, H.tra0 ht (fun x x1 x2 => (Eqa.rf hc x).sL (by omega)) (fun x x1 x2 x3 => (Eqa.rf _ x).sL x3) rfl rfl ?_⟩
    · simp only [pX12_write, w_tg (st_0 S), e1, w_bd, if_true, w_lt, pc_0_0 p1, w_nn, w_tg (st_1 S), sl_1 S, w_ix ht (show 4 < 2 ^ 31 by decide), nI_clamp (show t < 2 ^ 31 by omega), q1, w_tg q2]
      unfold pX11_keep pX11_has
      rw [w_tg q2, w_tg q2, if_neg (nI_pos (by omega)), f2, if_neg (nI_ge hk (by omega)), w_lt, q3, w_nn, w_tg q4, q5, if_neg (show ¬ Int32.ofNat 60 ≤ nI k from nI_ge (b := 60) (by omega) (by decide)), w_bd, if_neg (by decide), w_lt, cut_trims q2, f4, w_bd, w_nn, w_tg q4, q5, w_ix (show k < 60 by omega) (by decide), nI_clamp (by omega), w_lt, w_bd, k_agree S]
      rfl
    · simp only [pX13_write, w_tg (st_187 S), w_lt, e2, w_bd, hI_s]
      rw [if_pos (by decide), show hR (sI (sI hr (B + 187) 1 0) (B + 187) 0 0) (B + 187) 4 = some (B + 188) from pr_187_4 p2, w_nn, w_tg (st_188 S), sl_188 S, w_ix ht (by decide), show hR (sI (sI hr (B + 187) 1 0) (B + 187) 0 0) (B + 187) 6 = some (B + 190) from pr_187_6 p2, w_nn, w_tg (st_190 S), sl_190 S, ei, w_ix (show 60 * t + k < 240 by omega) (by decide), nI_clamp (by omega), nI_clamp (by omega), f5']
    · intro t' ht'
      obtain ⟨k1, k2, k3⟩ := H.2.2.2.2.2.1 t' ht'
      rw [show hI (sL hc (B + 2 + 2 * t + 1) k (pX13_trims (nI s) v)) = hI hc from rfl, show hI (sL (sI (sI hr (B + 187) 1 0) (B + 187) 0 0) (B + 190) (60 * t + k) (pX13_trims (nI s) v)) = hI (sI (sI hr (B + 187) 1 0) (B + 187) 0 0) from rfl, z8, z9]
      refine ⟨k1, k2, fun z => ?_⟩
      obtain ⟨m', s', y1, y2, y3, y4, y5, y6, y7⟩ := k3 z
      refine ⟨m', s', y1, y2, y3, y4, y5, y6, fun i hi => ?_⟩
      by_cases e : t' = t
      · subst e
        rw [hL_sL, if_pos (by omega), hL_sL, if_pos rfl]
        by_cases ek : i = k
        · rw [ek, ud_s, ud_s]
        · rw [ud_n ek, ud_n (by omega), show B + 2 + 2 * t' + 1 = B + 3 + 2 * t' by omega]; exact y7 i hi
      · rw [hL_sL, if_neg (by omega), hL_sL, if_pos rfl, ud_n (by omega)]
        exact y7 i hi
/-- what halving says: the same reasons -/
theorem halv_why (a b : Int32) (M : Nat) : pX12_halvingTrouble a b = pX13_whyNoRound M a b := by
  unfold pX12_halvingTrouble pX13_whyNoRound
  have e16 : pX13_isIn (Int32.toInt64 a) 1 16 = pX12_within a 1 16 := isIn_w a 1 16
  rw [e16]
  have key : (pX13_isIn (Int32.toInt64 b) 0 (Int32.toInt64 a - 1) = 0) = (b < 0 ∨ a ≤ b) := by
    unfold pX13_isIn
    simp only [lgc_lt, lgc_gt]
    have ea : (Int32.toInt64 a - 1).toInt = a.toInt - 1 := by
      rw [Int64.toInt_sub, Int32.toInt_toInt64, show (1 : Int64).toInt = 1 from rfl]
      have h1 := a.toInt_lt
      have h2 := a.le_toInt
      exact Int.bmod_eq_of_le (by omega) (by omega)
    rw [ea, Int32.toInt_toInt64, show (0 : Int64).toInt = 0 from rfl]
    apply propext
    rw [Int32.lt_iff_toInt_lt, Int32.le_iff_toInt_le, show (0 : Int32).toInt = 0 from rfl]
    by_cases c1 : b.toInt < 0
    · rw [if_pos c1]; exact ⟨fun _ => Or.inl c1, fun _ => rfl⟩
    · rw [if_neg c1]
      by_cases c2 : a.toInt - 1 < b.toInt
      · rw [if_pos c2]; exact ⟨fun _ => Or.inr (by omega), fun _ => rfl⟩
      · rw [if_neg c2]; exact ⟨fun z => absurd z (by decide), fun z => by omega⟩
  simp only [key]
  by_cases c1 : b < 0
  · rw [if_pos c1, if_pos (Or.inl c1)]
  · rw [if_neg c1]
    by_cases c2 : a ≤ b
    · have c3 : ¬ b < a := by
        rw [Int32.le_iff_toInt_le] at c2
        rw [Int32.lt_iff_toInt_lt]
        omega
      rw [if_neg c3, if_pos (Or.inr c2)]
    · have c3 : b < a := by
        rw [Int32.le_iff_toInt_le] at c2
        rw [Int32.lt_iff_toInt_lt]
        omega
      rw [if_pos c3, if_neg (show ¬ (b < 0 ∨ a ≤ b) from fun z => z.elim c1 c2)]
/-- of n elements, i: in which round, with which one -/
def rnd : Nat → Nat → Nat → Nat × Nat
  | 0, _, _ => (0, 0)
  | f + 1, n, i => if (n + 1) / 2 ≤ i then (0, i - (n + 1) / 2) else ((rnd f ((n + 1) / 2) i).1 + 1, (rnd f ((n + 1) / 2) i).2)
theorem half_le {n i : Nat} (hi : 0 < i) (h : i < (n + 1) / 2) : (n + 1) / 2 < n := by omega
theorem nI_half (n : Nat) (hn : n < 2 ^ 30) : (nI n + 1) / 2 = nI ((n + 1) / 2) := by rw [nI_1]; exact pk_div (by omega) (by decide) (by decide)
theorem k_round : ∀ (f n i r m : Nat) (h : CT), Sh B g → n ≤ f → n + r ≤ 16 → 0 < i → i < n → pX12_roundOf_l26 g B (nI m) (nI i) (f + 1) (nI r) (nI ((n + 1) / 2)) h = some (nI (r + (rnd f n i).1), sI h B 19 0) ∧ pX12_partnerOf_l26 g B (nI m) (nI i) (f + 1) (nI ((n + 1) / 2)) (nI r) h = some (nI (rnd f n i).2, sI h B 19 0) := by
  intro f
  induction f with
  | zero => intro n i r m h S e1 e2 e3 e4; omega
  | succ f ih =>
    intro n i r m h S e1 e2 e3 e4
    have b53 : ∀ x, pX12_roundOf_b53 g B (nI m) (nI i) x h = some (x, sI h B 19 0) := fun x => by unfold pX12_roundOf_b53; rw [k_answer S]; rfl
    have b53' : ∀ x, pX12_partnerOf_b53 g B (nI m) (nI i) x h = some (nI i - x, sI h B 19 0) := fun x => by unfold pX12_partnerOf_b53; rw [k_answer S]; rfl
    rw [pX12_roundOf_l26, pX12_roundOf_b26, pX12_partnerOf_l26, pX12_partnerOf_b26, rnd]
    by_cases c : (n + 1) / 2 ≤ i
    · rw [if_pos (nI_le c (by omega)), if_pos (nI_le c (by omega)), if_pos c, b53, b53', pk_sub c]
      exact ⟨rfl, rfl⟩
    · have hl := half_le (n := n) (i := i) e3 (by omega)
      rw [if_neg (nI_ge (by omega) (by omega)), if_neg (nI_ge (by omega) (by omega)), if_neg c, if_neg (show ¬ 16 ≤ nI r from nI_ge (b := 16) (by omega) (by decide)), if_neg (show ¬ 16 ≤ nI r from nI_ge (b := 16) (by omega) (by decide)), w_lt, w_lt, w_lt, w_lt, nI_1, nI_half _ (by omega)]
      obtain ⟨q1, q2⟩ := ih ((n + 1) / 2) i (r + 1) m h S (by omega) (by omega) e3 (by omega)
      rw [q1, q2]
      refine ⟨?_, rfl⟩
      rw [show r + 1 + (rnd f ((n + 1) / 2) i).1 = r + ((rnd f ((n + 1) / 2) i).1 + 1) by omega]
theorem m_round : ∀ (f n i r m : Nat) (h : CT), Sh B g → n ≤ f → n + r ≤ 16 → 0 < i → i < n → hI h (B + 187) 48 = nI r → ∃ h', pX13_laysRound_l7 g (B + 187) (nI m) (nI i) (f + 1) (nI n) h = some h' ∧ hI h' (B + 187) 48 = nI (r + (rnd f n i).1) ∧ hI h' (B + 187) 49 = nI (rnd f n i).2 ∧ But1 (B + 187) h h' ∧ hL h' = hL h ∧ ∀ k, k ≠ 48 → k ≠ 49 → hI h' (B + 187) k = hI h (B + 187) k := by
  intro f
  induction f with
  | zero => intro n i r m h S e1 e2 e3 e4; omega
  | succ f ih =>
    intro n i r m h S e1 e2 e3 e4 e5
    rw [pX13_laysRound_l7, pX13_laysRound_b7, rnd, nI_half _ (by omega)]
    by_cases c : (n + 1) / 2 ≤ i
    · rw [if_pos (nI_le c (by omega)), if_pos c, w_lt, pk_sub c]
      refine ⟨_, rfl, ?_, ?_, (But1.rf _ h).stI, rfl, fun k k1 k2 => ?_⟩
      · rw [hI_sI, if_pos rfl, ud_n (by decide)]; exact e5
      · rw [hI_sI, if_pos rfl, ud_s]
      · rw [hI_sI, if_pos rfl, ud_n k2]
    · have hl := half_le (n := n) (i := i) e3 (by omega)
      rw [if_neg (nI_ge (by omega) (by omega)), if_neg c, w_lt, w_lt, e5, nI_1]
      obtain ⟨h', q1, q2, q3, q4, q5, q6⟩ := ih ((n + 1) / 2) i (r + 1) m (sI h (B + 187) 48 (nI (r + 1))) S (by omega) (by omega) e3 (by omega) (by rw [hI_sI, if_pos rfl, ud_s])
      refine ⟨h', q1, ?_, q3, ⟨q4.1, fun x hx => ((Eqa.rf h x).sI hx).tr (q4.2 x hx)⟩, q5, fun k k1 k2 => ?_⟩
      · rw [q2, show r + 1 + (rnd f ((n + 1) / 2) i).1 = r + ((rnd f ((n + 1) / 2) i).1 + 1) by omega]
      · rw [q6 k k1 k2, hI_sI, if_pos rfl, ud_n k1]
theorem rnd_fuel : ∀ (f f' n i : Nat), n ≤ f → n ≤ f' → 0 < i → i < n → rnd f n i = rnd f' n i := by
  intro f
  induction f with
  | zero => intro f' n i e1 e2 e3 e4; omega
  | succ f ih =>
    intro f' n i e1 e2 e3 e4
    obtain ⟨f', rfl⟩ : ∃ k, f' = k + 1 := ⟨f' - 1, by omega⟩
    rw [rnd, rnd]
    by_cases c : (n + 1) / 2 ≤ i
    · rw [if_pos c, if_pos c]
    · have hl := half_le (n := n) (i := i) e3 (by omega)
      rw [if_neg c, if_neg c, ih f' _ i (by omega) (by omega) e3 (by omega)]
/-- the reference's scratch fields -/
theorem Rel.scr (H : Rel B op g hc hr) {v : Int32} {h1 : CT} (b : But1 (B + 187) (sI (sI hr (B + 187) 1 0) (B + 187) 0 v) h1) (l : hL h1 = hL hr) (e : ∀ k, k ≠ 48 → k ≠ 49 → hI h1 (B + 187) k = hI (sI (sI hr (B + 187) 1 0) (B + 187) 0 v) (B + 187) k) : Rel B op g (sI hc B 19 v) h1 := by
  have H0 := H.stat v 0
  have o2 : OfR B [187] (sI (sI hr (B + 187) 1 0) (B + 187) 0 v) h1 := fun a z1 z2 => b.2 a (z2 187 (by simp))
  refine H0.obj (W := []) (W' := [187]) (OfC.rf _) o2 rfl rfl rfl H0.2.1 (by rw [b.1]; exact H0.2.2.1) rfl rfl rfl rfl ?_ H0.2.2.2.2.2.2.2.2.2.2
  obtain ⟨q1, q2, q3, q4, q5, q6, q7, q8, q9⟩ := H0.2.2.2.1
  unfold ObjR
  rw [e 0 (by decide) (by decide), e 8 (by decide) (by decide), e 21 (by decide) (by decide), e 41 (by decide) (by decide), e 22 (by decide) (by decide), e 3 (by decide) (by decide), e 10 (by decide) (by decide), e 11 (by decide) (by decide), l]
  exact ⟨q1, q2, q3, q4, q5, q6, q7, q8, q9⟩
theorem halv_cases (a b : Int32) : (pX12_halvingTrouble a b = 2 ∨ pX12_halvingTrouble a b = 5 ∨ pX12_halvingTrouble a b = 8) ∨ (pX12_halvingTrouble a b = 0 ∧ ∃ n i, n ≤ 16 ∧ 0 < i ∧ i < n ∧ a = nI n ∧ b = nI i) := by
  unfold pX12_halvingTrouble
  by_cases c1 : b < 0
  · rw [if_pos c1]; exact Or.inl (Or.inl rfl)
  · rw [if_neg c1]
    by_cases c2 : b < a
    · rw [if_pos c2]
      rcases within_g a 1 16 (by decide) (by decide) with q | ⟨q, n, l1, l2, rfl⟩
      · rw [if_pos (show pX12_within a 1 16 = 0 from q)]; exact Or.inl (Or.inr (Or.inl rfl))
      · have q' : ¬ pX12_within (nI n) 1 16 = 0 := by
          have : pX12_within (nI n) 1 16 = 1 := q
          rw [this]; decide
        rw [if_neg q']
        by_cases c3 : b = 0
        · rw [if_pos c3]; exact Or.inl (Or.inr (Or.inr rfl))
        · rw [if_neg c3]
          obtain ⟨i, hi, rfl⟩ := nI_of c1
          refine Or.inr ⟨rfl, n, i, l2, ?_, (nI_ltI hi (by omega)).mp c2, rfl, rfl⟩
          exact Nat.pos_of_ne_zero fun z => c3 (by rw [z]; rfl)
    · rw [if_neg c2]; exact Or.inl (Or.inl rfl)
theorem halv_v {v : Int32} (h : v = 2 ∨ v = 5 ∨ v = 8) : ¬ v = 0 ∧ ¬ v ≤ 0 := by rcases h with rfl | rfl | rfl <;> decide
theorem C_roundOf : K_roundOf B E op := by
  intro a b g hc hr H
  have S := H.1
  rcases halv_cases a b with hv | ⟨e, n, i, hn, hi, hin, rfl, rfl⟩
  · obtain ⟨n1, n2⟩ := halv_v hv
    refine ⟨-1, _, _, ?_, ?_, H.stat (pX12_halvingTrouble a b) 0⟩
    · simp only [pX12_roundOf, w_tg (st_0 S), w_lt, if_neg n1, k_refuse S, w_bd2]
    · simp only [pX13_roundOf, w_tg (st_187 S), w_lt, ← halv_why a b, hI_s, if_neg n2]
  · obtain ⟨q1, -⟩ := k_round 4999 n i 0 n hc S (by omega) (by omega) hi hin
    obtain ⟨h', u1, u2, u3, u4, u5, u6⟩ := m_round 4999 n i 0 n (sI (sI (sI hr (B + 187) 1 0) (B + 187) 0 0) (B + 187) 48 0) S (by omega) (by omega) hi hin (by rw [hI_sI, if_pos rfl, ud_s]; rfl)
    refine ⟨nI (0 + (rnd 4999 n i).1), _, h', ?_, ?_, H.scr (v := 0) ⟨u4.1, fun x hx => ((Eqa.rf _ x).sI hx).tr (u4.2 x hx)⟩ u5 (fun k k1 k2 => by rw [u6 k k1 k2, hI_sI, if_pos rfl, ud_n k1])⟩
    · show pX12_roundOf g hc B (nI n) (nI i) = _
      unfold pX12_roundOf
      rw [w_tg (st_0 S), w_lt, if_pos e, w_lt, nI_half _ (by omega)]
      exact q1
    · show pX13_roundOf g hr (B + 187) (nI n) (nI i) = _
      unfold pX13_roundOf
      rw [w_tg (st_187 S), w_lt, ← halv_why, e, w_lt, hI_s, if_pos (by decide)]
      unfold pX13_laysRound
      rw [w_tg (st_187 S), w_lt, show pX13_laysRound_l7 g (B + 187) (nI n) (nI i) FUEL (nI n) (sI (sI (sI hr (B + 187) 1 0) (B + 187) 0 0) (B + 187) 48 0) = some h' from u1, w_bd, u2]
theorem C_partnerOf : K_partnerOf B E op := by
  intro a b g hc hr H
  have S := H.1
  rcases halv_cases a b with hv | ⟨e, n, i, hn, hi, hin, rfl, rfl⟩
  · obtain ⟨n1, n2⟩ := halv_v hv
    refine ⟨-1, _, _, ?_, ?_, H.stat (pX12_halvingTrouble a b) 0⟩
    · simp only [pX12_partnerOf, w_tg (st_0 S), w_lt, if_neg n1, k_refuse S, w_bd2]
    · simp only [pX13_partnerOf, w_tg (st_187 S), w_lt, ← halv_why a b, hI_s, if_neg n2]
  · obtain ⟨-, q1⟩ := k_round 4999 n i 0 n hc S (by omega) (by omega) hi hin
    obtain ⟨h', u1, u2, u3, u4, u5, u6⟩ := m_round 4999 n i 0 n (sI (sI (sI hr (B + 187) 1 0) (B + 187) 0 0) (B + 187) 48 0) S (by omega) (by omega) hi hin (by rw [hI_sI, if_pos rfl, ud_s]; rfl)
    refine ⟨nI (rnd 4999 n i).2, _, h', ?_, ?_, H.scr (v := 0) ⟨u4.1, fun x hx => ((Eqa.rf _ x).sI hx).tr (u4.2 x hx)⟩ u5 (fun k k1 k2 => by rw [u6 k k1 k2, hI_sI, if_pos rfl, ud_n k1])⟩
    · show pX12_partnerOf g hc B (nI n) (nI i) = _
      unfold pX12_partnerOf
      rw [w_tg (st_0 S), w_lt, if_pos e, w_lt, nI_half _ (by omega)]
      exact q1
    · show pX13_partnerOf g hr (B + 187) (nI n) (nI i) = _
      unfold pX13_partnerOf
      rw [w_tg (st_187 S), w_lt, ← halv_why, e, w_lt, hI_s, if_pos (by decide)]
      unfold pX13_laysRound
      rw [w_tg (st_187 S), w_lt, show pX13_laysRound_l7 g (B + 187) (nI n) (nI i) FUEL (nI n) (sI (sI (sI hr (B + 187) 1 0) (B + 187) 0 0) (B + 187) 48 0) = some h' from u1, w_bd, u3]
end C6
