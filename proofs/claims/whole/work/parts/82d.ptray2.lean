/-! TRAYS: the calls -/
theorem gt_ge {x : Int32} {n : Nat} (hn : n + 1 < 2 ^ 31) (h : nI n < x) : ¬ x < 0 ∧ nI (n + 1) ≤ x := by
  rw [Int32.lt_iff_toInt_lt, nI_toInt (by omega)] at h
  rw [Int32.lt_iff_toInt_lt, Int32.le_iff_toInt_le, nI_toInt hn]
  have : (0 : Int32).toInt = 0 := rfl
  omega
section TR2
variable {B : Nat} {E : EC} {op : Nat → Nat} {g : MT} {hc hr hc' hr' : CT}
theorem Rel.tra0 (H : Rel B op g hc hr) {t : Nat} (ht : t < 4) {h1 h2 : CT} (b1 : ∀ x, x ≠ B + 2 + 2 * t → x ≠ B + 3 + 2 * t → Eqa hc h1 x) (b2 : ∀ x, x ≠ B + 188 → x ≠ B + 189 → x ≠ B + 190 → Eqa (sI (sI hr (B + 187) 1 0) (B + 187) 0 0) h2 x) (pC : hR h1 = hR hc) (pR : hR h2 = hR hr) (nT : TraR B h1 h2) : Rel B op g (sI h1 B 19 0) h2 := by
  have H0 := H.stat 0 0
  have d0 := b1 B (by omega) (by omega)
  have d0' := b2 (B + 187) (by omega) (by omega) (by omega)
  have o1 : OfC B [0, 2, 3, 4, 5, 6, 7, 8, 9] hc (sI h1 B 19 0) := fun a z1 z2 => by
    have n0 : a ≠ B := z2 0 (by simp)
    refine (b1 a ?_ ?_).sI n0
    · intro e
      have : 2 + 2 * t ∈ [0, 2, 3, 4, 5, 6, 7, 8, 9] := by match t, ht with | 0, _ => simp | 1, _ => simp | 2, _ => simp | 3, _ => simp
      exact z2 _ this (by omega)
    · intro e
      have : 3 + 2 * t ∈ [0, 2, 3, 4, 5, 6, 7, 8, 9] := by match t, ht with | 0, _ => simp | 1, _ => simp | 2, _ => simp | 3, _ => simp
      exact z2 _ this (by omega)
  have o2 : OfR B [187, 188, 189, 190] hr h2 := fun a z1 z2 => by
    have n0 : a ≠ B + 187 := z2 187 (by simp)
    exact (((Eqa.rf hr a).sI n0).sI n0).tr (b2 a (z2 188 (by simp)) (z2 189 (by simp)) (z2 190 (by simp)))
  refine H.tra o1 o2 rfl rfl pC pR ?_ ?_ ?_ ?_ ?_ ?_ ?_
  · simp [hI_sI, ud, d0.1]
  · simp [hI_sI, ud, d0.1]
  · simp [hI_sI, ud, d0.1]
  · simp [hI_sI, ud, d0.1]
  · obtain ⟨q1, q2, q3, q4, q5, q6, q7, q8, q9⟩ := H0.2.2.2.1
    have k130 := b1 (B + 130) (by omega) (by omega)
    have k11 := b1 (B + 11) (by omega) (by omega)
    unfold ObjR
    rw [d0'.1, d0'.2.1]
    have e1 : hI (sI h1 B 19 0) B = hI (sI hc B 19 0) B := by rw [hI_sI, if_pos rfl, hI_sI, if_pos rfl, d0.1]
    have e2 : hI (sI h1 B 19 0) (B + 130) = hI (sI hc B 19 0) (B + 130) := by rw [hI_sI, if_neg (by omega), hI_sI, if_neg (by omega), k130.1]
    have e3 : hI (sI h1 B 19 0) (B + 11) = hI (sI hc B 19 0) (B + 11) := by rw [hI_sI, if_neg (by omega), hI_sI, if_neg (by omega), k11.1]
    have e4 : hL (sI h1 B 19 0) (B + 130) = hL (sI hc B 19 0) (B + 130) := k130.2.1
    rw [e1, e2, e3, e4]
    exact ⟨q1, q2, q3, q4, q5, q6, q7, q8, q9⟩
  · intro t' ht'
    have h := nT t' ht'
    rw [hI_sI, if_neg (by omega)]
    exact h
  · refine H.2.2.2.2.2.2.2.2.2.2.same fun n hn => ?_
    rw [hI_sI, if_neg (by omega)]
    exact (b1 _ (by omega) (by omega)).1
theorem C_tray : K_tray B E op := by
  intro a0 a1 a2 g hc hr H
  have S := H.1
  have p1 := H.2.1
  have p2 := H.2.2.1
  have bad1 : pX12_tray_b16 g B a0 a1 a2 hc = some (0, sI hc B 19 1) := by unfold pX12_tray_b16; rw [k_deny S]; rfl
  have bad2 : pX13_tray_b28 g (B + 187) a0 a1 a2 (sI (sI hr (B + 187) 1 0) (B + 187) 0 0) = some (0, sI (sI hr (B + 187) 1 0) (B + 187) 0 1) := by unfold pX13_tray_b28; rw [m_no S, sI_sI]; rfl
  have eT : ∀ x, pX12_isTray x = pX12_within x 0 (nI 3) := fun _ => rfl
  rcases within_0 a0 3 (by decide) with ⟨e0, b0⟩ | ⟨e0, t, ht, rfl⟩
  · refine ⟨0, _, _, ?_, ?_, H.stat 1 0⟩
    · simp only [pX12_tray, w_tg (st_0 S), eT, if_pos e0, bad1]
    · simp only [pX13_tray, w_tg (st_187 S), w_lt]
      rcases b0 with b0 | b0
      · rw [if_pos b0, bad2]
      · obtain ⟨c1, c2⟩ := gt_ge (by decide) b0
        rw [if_neg c1, if_pos (show 4 ≤ a0 from c2), bad2]
  · have c1 : ¬ nI t < 0 := nI_pos (by omega)
    have c2 : ¬ 4 ≤ nI t := nI_ge (b := 4) (by omega) (by decide)
    have e0' : ¬ pX12_within (nI t) 0 (nI 3) = 0 := by rw [e0]; decide
    rcases within_0 a1 3 (by decide) with ⟨e1, b1⟩ | ⟨e1, s, hs, rfl⟩
    · refine ⟨0, _, _, ?_, ?_, H.stat 1 0⟩
      · simp only [pX12_tray, w_tg (st_0 S), eT, if_neg e0']
        rw [if_pos (show pX12_within a1 0 3 = 0 from e1), bad1]
      · simp only [pX13_tray, w_tg (st_187 S), w_lt, if_neg c1, if_neg c2]
        rcases b1 with b1 | b1
        · rw [if_pos b1, bad2]
        · obtain ⟨d1, d2⟩ := gt_ge (by decide) b1
          have d3 : ¬ a1 ≤ 3 := fun z => by
            rw [Int32.le_iff_toInt_le] at z d2
            rw [nI_toInt (by decide)] at d2
            have : (3 : Int32).toInt = 3 := rfl
            omega
          rw [if_neg d1, if_neg d3, bad2]
    · have d1 : ¬ nI s < 0 := nI_pos (by omega)
      have d2 : nI s ≤ 3 := nI_le (b := 3) hs (by decide)
      have e1' : ¬ pX12_within (nI s) 0 3 = 0 := fun z => by
        have : pX12_within (nI s) 0 3 = 1 := e1
        rw [this] at z; cases z
      by_cases f1 : a2 ≤ 60
      · by_cases f2 : 0 ≤ a2
        · obtain ⟨m, hm, rfl⟩ : ∃ m, m ≤ 60 ∧ a2 = nI m := by
            have nn0 : ¬ a2 < 0 := fun z => by
              rw [Int32.lt_iff_toInt_lt] at z
              rw [Int32.le_iff_toInt_le] at f2
              omega
            exact nI_of2 (M := 60) (n := 60) rfl nn0 f1
          have ht' : t < 4 := by omega
          obtain ⟨q1, q2, q3, q4, q5⟩ := trayA S p1 ht'
          -- the class
          have hfill := fillL (h := sI (sI (sI hc (B + 2 + 2 * t) 0 1) (B + 2 + 2 * t) 1 (nI s)) (B + 2 + 2 * t) 2 (nI m)) (v := 0) q4 q5 (by decide)
          obtain ⟨h1, g1, g2, g3, g4⟩ := hfill
          -- the reference
          have r4 : ∀ h : CT, hR h = hR hr → hR h (B + 187) 4 = some (B + 188) := fun h e => by rw [e]; exact pr_187_4 p2
          have r5 : ∀ h : CT, hR h = hR hr → hR h (B + 187) 5 = some (B + 189) := fun h e => by rw [e]; exact pr_187_5 p2
          obtain ⟨h2, w1, w2, w3, w4, w5⟩ := m_tray_l (hr := sI (sI (sI (sI hr (B + 187) 1 0) (B + 187) 0 0) (B + 188) t (nI s)) (B + 189) t (nI m)) (p := nI s) S p2 ht' hm
          refine ⟨1, _, h2, ?_, ?_, H.tra0 ht' (h1 := h1) (h2 := h2) (fun x x1 x2 => ?_) (fun x x1 x2 x3 => ?_) g2.1 w2.1 ?_⟩
          · simp only [pX12_tray, w_tg (st_0 S), eT, if_neg e0', if_neg e1', if_pos f1, if_pos f2, w_lt, pc_0_0 p1, w_nn, w_tg (st_1 S), sl_1 S, w_ix (show t < 4 from ht') (show 4 < 2 ^ 31 by decide), nI_clamp (show t < 2 ^ 31 by omega), q1, w_tg q2]
            unfold pX11_begin
            rw [w_tg q2]
            simp only [w_lt]
            rw [show hR (sI (sI (sI hc (B + 2 + 2 * t) 0 1) (B + 2 + 2 * t) 1 (nI s)) (B + 2 + 2 * t) 2 (nI m)) (B + 2 + 2 * t) 3 = some (B + 2 + 2 * t + 1) from q3, w_nn, g1, w_bd, w_bd, k_agree S]
            rfl
          · simp only [pX13_tray, w_tg (st_187 S), w_lt, if_neg c1, if_neg c2, if_neg d1, if_pos d2, if_pos f1, if_pos f2]
            rw [show hR (sI (sI hr (B + 187) 1 0) (B + 187) 0 0) (B + 187) 4 = some (B + 188) from pr_187_4 p2, w_nn, w_tg (st_188 S), sl_188 S, w_ix ht' (by decide), nI_clamp (by omega), show hR (sI (sI (sI hr (B + 187) 1 0) (B + 187) 0 0) (B + 188) t (nI s)) (B + 187) 5 = some (B + 189) from pr_187_5 p2, w_nn, w_tg (st_189 S), sl_189 S, w_ix ht' (by decide), w1]
          · exact ((((Eqa.rf hc x).sI x1).sI x1).sI x1).tr (g2.2 x (by omega))
          · exact (((Eqa.rf _ x).sI x1).sI x2).tr (w2.2 x x3)
          · intro t' ht2
            have a1 := (g2.2 (B + 2 + 2 * t') (by omega)).1
            have z8 := (w2.2 (B + 188) (by omega)).1
            have z9 := (w2.2 (B + 189) (by omega)).1
            rw [a1, z8, z9]
            by_cases e : t' = t
            · subst e
              have v0 : hI (sI (sI (sI hc (B + 2 + 2 * t') 0 1) (B + 2 + 2 * t') 1 (nI s)) (B + 2 + 2 * t') 2 (nI m)) (B + 2 + 2 * t') = ud (ud (ud (hI hc (B + 2 + 2 * t')) 0 1) 1 (nI s)) 2 (nI m) := by
                rw [hI_sI, if_pos rfl, hI_sI, if_pos rfl, hI_sI, if_pos rfl]
              rw [v0]
              refine ⟨is01_1, fun z => absurd (show (1 : Int32) = 0 from z) (by decide), fun _ => ⟨m, s, hm, by omega, rfl, ?_, rfl, ?_, fun k hk => ?_⟩⟩
              · rw [hI_sI, if_pos rfl, ud_s]
              · rw [hI_sI, if_neg (by omega), hI_sI, if_pos rfl, ud_s]
              · rw [show B + 3 + 2 * t' = B + 2 + 2 * t' + 1 by omega, g4 k (by omega), w4 _ (by omega) (by omega)]
            · have v0 : hI (sI (sI (sI hc (B + 2 + 2 * t) 0 1) (B + 2 + 2 * t) 1 (nI s)) (B + 2 + 2 * t) 2 (nI m)) (B + 2 + 2 * t') = hI hc (B + 2 + 2 * t') := by
                rw [hI_sI, if_neg (by omega), hI_sI, if_neg (by omega), hI_sI, if_neg (by omega)]
              have v1 : hI (sI (sI (sI (sI hr (B + 187) 1 0) (B + 187) 0 0) (B + 188) t (nI s)) (B + 189) t (nI m)) (B + 189) t' = hI hr (B + 189) t' := by
                rw [hI_sI, if_pos rfl, ud_n e, hI_sI, if_neg (by omega), hI_sI, if_neg (by omega), hI_sI, if_neg (by omega)]
              have v2 : hI (sI (sI (sI (sI hr (B + 187) 1 0) (B + 187) 0 0) (B + 188) t (nI s)) (B + 189) t (nI m)) (B + 188) t' = hI hr (B + 188) t' := by
                rw [hI_sI, if_neg (by omega), hI_sI, if_pos rfl, ud_n e, hI_sI, if_neg (by omega), hI_sI, if_neg (by omega)]
              rw [v0, v1, v2]
              obtain ⟨k1, k2, k3⟩ := H.2.2.2.2.2.1 t' ht2
              refine ⟨k1, k2, fun z => ?_⟩
              obtain ⟨m', s', y1, y2, y3, y4, y5, y6, y7⟩ := k3 z
              refine ⟨m', s', y1, y2, y3, y4, y5, y6, fun k hk => ?_⟩
              rw [(g2.2 (B + 3 + 2 * t') (by omega)).2.1, w5 _ (by omega)]
              exact y7 k hk
        · refine ⟨0, _, _, ?_, ?_, H.stat 6 0⟩
          · simp only [pX12_tray, w_tg (st_0 S), eT, if_neg e0', if_neg e1', if_pos f1, if_neg f2, k_deny S, w_bd2, w_bz0]
          · simp only [pX13_tray, w_tg (st_187 S), w_lt, if_neg c1, if_neg c2, if_neg d1, if_pos d2, if_pos f1, if_neg f2, m_no S, w_bd2, w_bz0, sI_sI]
      · refine ⟨0, _, _, ?_, ?_, H.stat 5 0⟩
        · simp only [pX12_tray, w_tg (st_0 S), eT, if_neg e0', if_neg e1', if_neg f1, k_deny S, w_bd2, w_bz0]
        · simp only [pX13_tray, w_tg (st_187 S), w_lt, if_neg c1, if_neg c2, if_neg d1, if_pos d2, if_neg f1, m_no S, w_bd2, w_bz0, sI_sI]
end TR2
