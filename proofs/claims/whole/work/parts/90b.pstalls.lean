/-! stalls, banksFor, worst -/
section STL
variable {B : Nat} {E : EC} {op : Nat → Nat} {g : MT} {hc hr : CT}
theorem Rel.alo {s sr s' sr' : CT} (H : Rel B op g (sI s B 19 0) sr) (f1 : hR s' = hR s ∧ ∀ y, y ≠ B + 176 → y ≠ B + 182 → Eqa s s' y) (f2 : But1 (B + 204) sr sr') : Rel B op g (sI s' B 19 0) sr' := by
  have fr : ∀ y, y ≠ B + 176 → y ≠ B + 182 → Eqa (sI s B 19 0) (sI s' B 19 0) y := fun y y1 y2 => by
    have e := f1.2 y y1 y2
    refine ⟨?_, e.2.1, e.2.2.1, e.2.2.2⟩
    rw [hI_sI, hI_sI]
    by_cases z : y = B
    · rw [if_pos z, if_pos z, (f1.2 B (by omega) (by omega)).1]
    · rw [if_neg z, if_neg z]; exact e.1
  have eB := (fr B (by omega) (by omega)).1
  refine H.obj (W := [176, 182]) (W' := [204]) (fun y z1 z2 => fr y (z2 176 (by simp)) (z2 182 (by simp))) (fun y z1 z2 => f2.2 y (z2 204 (by simp))) rfl rfl rfl (by rw [hR_sI, f1.1]; exact H.2.1) (by rw [f2.1]; exact H.2.2.1) (by rw [eB]) (by rw [eB]) (by rw [eB]) (by rw [eB]) ?_ ?_
  · obtain ⟨q1, q2, q3, q4, q5, q6, q7, q8, q9⟩ := H.2.2.2.1
    have e130 := fr (B + 130) (by omega) (by omega)
    have e187 := f2.2 (B + 187) (by omega)
    unfold ObjR
    rw [eB, e130.1, e130.2.1, (fr (B + 11) (by omega) (by omega)).1, e187.1, e187.2.1]
    exact ⟨q1, q2, q3, q4, q5, q6, q7, q8, q9⟩
  · exact ScrR.same H.2.2.2.2.2.2.2.2.2.2 fun n hn => (fr (B + n) (by omega) (by omega)).1
theorem alone_why (x y : Nat) (a b c : Int32) : pX12_aloneTrouble x a b c = pX13_whyNotAlone y a b c ∧ (pX13_whyNotAlone y a b c = 2 ∨ pX13_whyNotAlone y a b c = 5 ∨ (pX13_whyNotAlone y a b c = 0 ∧ ∃ w st n, w < 64 ∧ st ≤ 64 ∧ n ≤ 64 ∧ a = nI w ∧ b = nI st ∧ c = nI n)) := by
  have i63 := isIn_l a 63 (by decide)
  rw [show (lN 63 : Int64) = 63 from rfl] at i63
  have ib := isIn_l b 64 (by decide)
  have ic := isIn_l c 64 (by decide)
  rw [show (lN 64 : Int64) = 64 from rfl] at ib ic
  have eW : ∀ x, pX12_isWord x = pX12_within x 0 (nI 63) := fun _ => rfl
  have eb : ∀ x, pX12_within x 0 64 = pX12_within x 0 (nI 64) := fun _ => rfl
  unfold pX12_aloneTrouble pX13_whyNotAlone pX13_isWordAt
  rw [i63, ib, ic, eW, eb, eb]
  refine ⟨rfl, ?_⟩
  rcases within_0 a 63 (by decide) with ⟨e, -⟩ | ⟨e, w, hw, rfl⟩
  · rw [if_pos e]; exact Or.inl rfl
  · rw [if_neg (by rw [e]; decide)]
    rcases within_0 b 64 (by decide) with ⟨e2, -⟩ | ⟨e2, st, hs, rfl⟩
    · rw [if_pos e2]; exact Or.inr (Or.inl rfl)
    · rw [if_neg (by rw [e2]; decide)]
      rcases within_0 c 64 (by decide) with ⟨e3, -⟩ | ⟨e3, n, hn, rfl⟩
      · rw [if_pos e3]; exact Or.inr (Or.inl rfl)
      · rw [if_neg (by rw [e3]; decide)]
        exact Or.inr (Or.inr ⟨rfl, w, st, n, by omega, hs, hn, rfl, rfl, rfl⟩)
theorem mac_67 (H : Rel B op g (sI hc B 19 0) hr) : ∃ m b, 1 ≤ m ∧ m ≤ 16 ∧ 1 ≤ b ∧ b ≤ 12 ∧ hI hc (B + 13) 6 = nI m ∧ hI hr (B + 192) 1 = nI m ∧ hI hc (B + 13) 7 = nI b ∧ hI hr (B + 192) 2 = nI b := by
  have hm : MacR B op g (sI hc B 19 0) 13 hr 0 := H.2.2.2.2.2.2.2.1
  obtain ⟨m, m1, m2, m3, m4⟩ := hm.1.2.1
  obtain ⟨b, b1, b2, b3, b4⟩ := hm.1.2.2.1
  rw [hI_sI, if_neg (by omega)] at m3 b3
  exact ⟨m, b, m1, m2, b1, b2, m3, m4, b3, b4⟩
theorem C_stalls : K_stalls B E op := by
  intro a b c g hc hr H
  have S := H.1
  have p1 := H.2.1
  have p2 := H.2.2.1
  obtain ⟨e, k⟩ := alone_why B (B + 187) a b c
  rcases k with k | k | ⟨k, w, st, n, hw, hs, hn, rfl, rfl, rfl⟩
  · exact ⟨-1, _, _, by simp only [pX12_stalls, w_tg (st_0 S), w_lt, e, k, if_neg (show ¬ (2 : Int32) = 0 by decide), k_refuse S, w_bd2], by simp only [pX13_stalls, w_tg (st_187 S), w_lt, k, hI_s, if_neg (show ¬ (2 : Int32) ≤ 0 by decide)], H.stat 2 0⟩
  · exact ⟨-1, _, _, by simp only [pX12_stalls, w_tg (st_0 S), w_lt, e, k, if_neg (show ¬ (5 : Int32) = 0 by decide), k_refuse S, w_bd2], by simp only [pX13_stalls, w_tg (st_187 S), w_lt, k, hI_s, if_neg (show ¬ (5 : Int32) ≤ 0 by decide)], H.stat 5 0⟩
  · have H0 := H.stat 0 0
    obtain ⟨m, bb, m0, m1, b0, b1, f1, f2, f3, f4⟩ := mac_67 H0
    obtain ⟨h', sr', r1, r2, r3, r4⟩ := alone_both S m0 m1 b0 b1 hw hs hn p1 (sr := sI (sI hr (B + 187) 1 0) (B + 187) 0 0) p2 f4
    refine ⟨nI (alN m bb w st n 0 0 0 fun _ => 0), sI h' B 19 0, sr', ?_, ?_, H0.alo r3 r4⟩
    · show pX12_stalls g hc B (nI w) (nI st) (nI n) = _
      simp only [pX12_stalls, w_tg (st_0 S), w_lt, e, k, if_true, pc_0_13 p1, pc_0_4 p1, w_nn, w_tg (st_13 S), w_tg (st_176 S), f1, f3, r1, w_bd2, k_answer S]
    · show pX13_stalls g hr (B + 187) (nI w) (nI st) (nI n) = _
      simp only [pX13_stalls, w_tg (st_187 S), w_lt, k, hI_s]
      rw [if_pos (by decide), show hR (sI (sI hr (B + 187) 1 0) (B + 187) 0 0) (B + 187) 19 = some (B + 192) from pr_187_19 p2, w_nn, w_tg (st_192 S), sl_192 S, show (1 : Int32) = nI 1 from rfl, w_ix (show 1 < 1476 by decide) (by decide), nI_clamp (by decide), f2, r2, w_bd2]
theorem bk_loop {w st n : Nat} (hw : w < 64) (hs : st ≤ 64) (hn : n ≤ 64) : ∀ (d i f f' : Nat) (s sr : CT), i + d = 17 → 1 ≤ i → d < f → d < f' → Rel B op g (sI s B 19 0) sr →
    ∃ r s' sr', pX12_banksFor_l24 g B (nI w) (nI st) (nI n) f (nI i) s = some (r, s') ∧ pX13_banksFor_l28 g (B + 187) (nI w) (nI st) (nI n) f' (nI i) sr = some (r, sr') ∧ Rel B op g s' sr' := by
  intro d
  induction d with
  | zero =>
    intro i f f' s sr hi h1 hf hf' H
    obtain ⟨f, rfl⟩ : ∃ q, f = q + 1 := ⟨f - 1, by omega⟩
    obtain ⟨f', rfl⟩ : ∃ q, f' = q + 1 := ⟨f' - 1, by omega⟩
    obtain rfl : i = 17 := by omega
    have HH := H.stat 8 (hI sr (B + 187) 1)
    rw [sI_sI, sI_id (h := sr) rfl] at HH
    refine ⟨-1, _, _, ?_, ?_, HH⟩
    · rw [pX12_banksFor_l24, pX12_banksFor_b24, if_pos (by decide), k_refuse H.1, w_bd2]
    · rw [pX13_banksFor_l28, pX13_banksFor_b28, if_pos (by decide), m_refuse H.1, w_bd2]
  | succ d ih =>
    intro i f f' s sr hi h1 hf hf' H
    obtain ⟨f, rfl⟩ : ∃ q, f = q + 1 := ⟨f - 1, by omega⟩
    obtain ⟨f', rfl⟩ : ∃ q, f' = q + 1 := ⟨f' - 1, by omega⟩
    have S := H.1
    have p1 : PtC B (hR s) := H.2.1
    have p2 := H.2.2.1
    obtain ⟨m, bb, m0, m1, b0, b1, f1, f2, f3, f4⟩ := mac_67 H
    obtain ⟨h', sr', r1, r2, r3, r4⟩ := alone_both S h1 (show i ≤ 16 by omega) b0 b1 hw hs hn p1 (sr := sr) p2 f4
    have H' := H.alo r3 r4
    have n16 : ¬ (16 : Int32) < nI i := Int32.not_lt.mpr (nI_le (b := 16) (a := i) (by omega) (by decide))
    have cl : pX12_banksFor_l24 g B (nI w) (nI st) (nI n) (f + 1) (nI i) s = if nI (alN i bb w st n 0 0 0 fun _ => 0) = 0 then some (nI i, sI h' B 19 0) else pX12_banksFor_l24 g B (nI w) (nI st) (nI n) f (nI (i + 1)) h' := by
      rw [pX12_banksFor_l24, pX12_banksFor_b24, if_neg n16, w_lt, pc_0_13 p1, w_lt, pc_0_4 p1, w_nn, w_tg (st_13 S), w_nn, w_tg (st_176 S), f3, r1, w_bd2, k_answer S, w_bd2, w_lt, nI_1]
    have rf : pX13_banksFor_l28 g (B + 187) (nI w) (nI st) (nI n) (f' + 1) (nI i) sr = if nI (alN i bb w st n 0 0 0 fun _ => 0) = 0 then some (nI i, sr') else pX13_banksFor_l28 g (B + 187) (nI w) (nI st) (nI n) f' (nI (i + 1)) sr' := by
      rw [pX13_banksFor_l28, pX13_banksFor_b28, if_neg n16, r2, w_bd2, w_lt, nI_1]
    rw [cl, rf]
    by_cases c : nI (alN i bb w st n 0 0 0 fun _ => 0) = 0
    · rw [if_pos c, if_pos c]; exact ⟨_, _, _, rfl, rfl, H'⟩
    · rw [if_neg c, if_neg c]; exact ih (i + 1) f f' h' sr' (by omega) (by omega) (by omega) (by omega) H'
theorem C_banksFor : K_banksFor B E op := by
  intro a b c g hc hr H
  have S := H.1
  have p1 := H.2.1
  have p2 := H.2.2.1
  obtain ⟨e, k⟩ := alone_why B (B + 187) a b c
  rcases k with k | k | ⟨k, w, st, n, hw, hs, hn, rfl, rfl, rfl⟩
  · exact ⟨-1, _, _, by simp only [pX12_banksFor, w_tg (st_0 S), w_lt, e, k, if_neg (show ¬ (2 : Int32) = 0 by decide), k_refuse S, w_bd2], by simp only [pX13_banksFor, w_tg (st_187 S), w_lt, k, hI_s, if_neg (show ¬ (2 : Int32) ≤ 0 by decide)], H.stat 2 0⟩
  · exact ⟨-1, _, _, by simp only [pX12_banksFor, w_tg (st_0 S), w_lt, e, k, if_neg (show ¬ (5 : Int32) = 0 by decide), k_refuse S, w_bd2], by simp only [pX13_banksFor, w_tg (st_187 S), w_lt, k, hI_s, if_neg (show ¬ (5 : Int32) ≤ 0 by decide)], H.stat 5 0⟩
  · obtain ⟨r, s', sr', r1, r2, r3⟩ := bk_loop hw hs hn 16 1 FUEL FUEL hc _ (by omega) (by omega) (by decide) (by decide) (H.stat 0 0)
    refine ⟨r, s', sr', ?_, ?_, r3⟩
    · show pX12_banksFor g hc B (nI w) (nI st) (nI n) = _
      simp only [pX12_banksFor, w_tg (st_0 S), w_lt, e, k, if_true]
      exact r1
    · show pX13_banksFor g hr (B + 187) (nI w) (nI st) (nI n) = _
      simp only [pX13_banksFor, w_tg (st_187 S), w_lt, k, hI_s]
      rw [if_pos (by decide)]
      exact r2
end STL
