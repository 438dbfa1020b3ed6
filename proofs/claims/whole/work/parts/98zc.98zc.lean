/-! PROGRAM: what has been read is well formed -/
section PWF
variable {B : Nat} {op : Nat → Nat} {g : MT} {h hc hc' : CT} {m pg : Nat} {kd : Nat → Nat} {vv : Nat → Nat → Int32} {row : Nat → Int32}
def mkP (kd : Nat → Nat) (vv : Nat → Nat → Int32) (k f : Nat) : Nat := if f = 0 then kd k else (vv k f).toInt.toNat
theorem mkP_v {k f x : Nat} (hf : 1 ≤ f) (hx : x ≤ 300) (e : vv k f = nI x) : mkP kd vv k f = x ∧ vv k f = nI (mkP kd vv k f) := by
  have : mkP kd vv k f = x := by
    unfold mkP
    rw [if_neg (by omega), e, nI_toInt (by omega)]
    exact Int.toNat_natCast x
  exact ⟨this, by rw [this]; exact e⟩
theorem bdM_le (k f : Nat) : bdM k f ≤ 200 := by
  unfold bdM
  repeat' split
  all_goals omega
theorem pi_ok (hm : m ≤ 30) (P : PI row m kd vv) (V : VI row m kd vv none) : WF (m, mkP kd vv) ∧ (∀ k, k < m → ∀ f, 1 ≤ f → f ≤ 9 → vv k f = nI (mkP kd vv k f)) ∧ PgM (fun x => row (984 + x)) 0 (m, mkP kd vv) := by
  obtain ⟨P1, P2, -⟩ := P
  obtain ⟨V1, V2, -⟩ := V
  have v8 : ∀ k, k < m → ∀ f, 1 ≤ f → f ≤ 8 → mkP kd vv k f ≤ bdM (kd k) f ∧ vv k f = nI (mkP kd vv k f) := fun k hk f f1 f8 => by
    obtain ⟨x, x1, x2⟩ := (V1 k hk).2.1 f f1 f8
    have := bdM_le (kd k) f
    obtain ⟨e1, e2⟩ := mkP_v (kd := kd) f1 (by omega) x1
    exact ⟨by omega, e2⟩
  have v9 : ∀ k, k < m → vv k 9 = nI (mkP kd vv k 9) ∧ (kd k = 25 → k < mkP kd vv k 9 ∧ mkP kd vv k 9 ≤ m ∧ row (990 + 8 * k + 7) = nI (mkP kd vv k 9) ∧ ∀ j, k < j → j < mkP kd vv k 9 → kd j ≠ 25) := fun k hk => by
    by_cases c : kd k = 25
    · obtain ⟨e, e1, e2, e3, e4, e5⟩ := V2 k hk c (by simp)
      obtain ⟨d1, d2⟩ := mkP_v (kd := kd) (f := 9) (by omega) (by omega) e1
      rw [d1]
      exact ⟨e1, fun _ => ⟨e2, e3, e4, e5⟩⟩
    · have e1 := (V1 k hk).2.2 c
      exact ⟨(mkP_v (kd := kd) (x := 0) (f := 9) (by omega) (by omega) (by rw [e1]; rfl)).2, fun w => absurd w c⟩
  have v19 : ∀ k, k < m → ∀ f, 1 ≤ f → f ≤ 9 → vv k f = nI (mkP kd vv k f) := fun k hk f f1 f9 => by
    by_cases c : f = 9
    · rw [c]; exact (v9 k hk).1
    · exact (v8 k hk f f1 (by omega)).2
  have e0 : ∀ k, mkP kd vv k 0 = kd k := fun k => if_pos rfl
  refine ⟨⟨hm, fun k hk => ?_⟩, v19, ⟨P1, fun k hk => ?_⟩⟩
  · have b1 := (v8 k hk 1 (by omega) (by omega)).1
    have b2 := (v8 k hk 2 (by omega) (by omega)).1
    have b3 := (v8 k hk 3 (by omega) (by omega)).1
    have b4 := (v8 k hk 4 (by omega) (by omega)).1
    have b5 := (v8 k hk 5 (by omega) (by omega)).1
    have b6 := (v8 k hk 6 (by omega) (by omega)).1
    have b7 := (v8 k hk 7 (by omega) (by omega)).1
    have b8 := (v8 k hk 8 (by omega) (by omega)).1
    have m1 : bdM (kd k) 1 = 5 := rfl
    have m2 : bdM (kd k) 2 = 5 := rfl
    have m3 : bdM (kd k) 3 = 5 := rfl
    have m4 : bdM (kd k) 4 = 3 := rfl
    have m5 : bdM (kd k) 5 = 63 := rfl
    have m6 : bdM (kd k) 6 = 16 := rfl
    have m7 : bdM (kd k) 7 = if kd k = 0 then 16 else 200 := rfl
    have m8 : bdM (kd k) 8 = if 7 ≤ kd k ∧ kd k ≤ 16 then 1 else 0 := rfl
    have l7 := bdM_le (kd k) 7
    show mkP kd vv k 0 < 27 ∧ mkP kd vv k 1 < 6 ∧ mkP kd vv k 2 < 6 ∧ mkP kd vv k 3 < 6 ∧ mkP kd vv k 4 < 4 ∧ mkP kd vv k 5 < 64 ∧ mkP kd vv k 6 ≤ 16 ∧ mkP kd vv k 7 ≤ 200 ∧ (mkP kd vv k 0 = 0 → mkP kd vv k 7 ≤ 16) ∧ mkP kd vv k 8 ≤ 1 ∧ (mkP kd vv k 8 = 1 → 7 ≤ mkP kd vv k 0 ∧ mkP kd vv k 0 ≤ 16) ∧ (mkP kd vv k 0 = 25 → k < mkP kd vv k 9 ∧ mkP kd vv k 9 ≤ m ∧ ∀ j, k < j → j < mkP kd vv k 9 → mkP kd vv j 0 ≠ 25)
    rw [e0]
    refine ⟨(V1 k hk).1, by omega, by omega, by omega, by omega, by omega, by omega, by omega, fun z => ?_, ?_, fun z => ?_, fun z => ?_⟩
    · rw [m7, if_pos z] at b7; exact b7
    · by_cases c : 7 ≤ kd k ∧ kd k ≤ 16
      · rw [m8, if_pos c] at b8; exact b8
      · rw [m8, if_neg c] at b8; omega
    · by_cases c : 7 ≤ kd k ∧ kd k ≤ 16
      · exact c
      · rw [m8, if_neg c] at b8; omega
    · obtain ⟨d1, d2, -, d4⟩ := (v9 k hk).2 z
      exact ⟨d1, d2, fun j j1 j2 => by rw [e0]; exact d4 j j1 j2⟩
  · obtain ⟨p1, p2⟩ := P2 k hk
    have r1 := p2 1 (by omega) (by omega)
    have r2 := p2 2 (by omega) (by omega)
    have r3 := p2 3 (by omega) (by omega)
    have r4 := p2 4 (by omega) (by omega)
    have r5 := p2 5 (by omega) (by omega)
    have r6 := p2 6 (by omega) (by omega)
    have l1 : layv (kd k) (vv k) 1 = vv k 1 := rfl
    have l2 : layv (kd k) (vv k) 2 = vv k 2 := rfl
    have l3 : layv (kd k) (vv k) 3 = vv k 3 := rfl
    have l4 : layv (kd k) (vv k) 4 = if kd k = 0 ∨ kd k = 25 then vv k 7 else vv k 5 := rfl
    have l5 : layv (kd k) (vv k) 5 = if kd k = 3 ∨ kd k = 4 then vv k 6 else vv k 4 := rfl
    have l6 : layv (kd k) (vv k) 6 = vv k 8 := rfl
    show row (984 + (0 + 6 + 8 * k)) = nI (mkP kd vv k 0) ∧ row (984 + (0 + 7 + 8 * k)) = nI (mkP kd vv k 1) ∧ row (984 + (0 + 8 + 8 * k)) = nI (mkP kd vv k 2) ∧ row (984 + (0 + 9 + 8 * k)) = nI (mkP kd vv k 3) ∧ row (984 + (0 + 10 + 8 * k)) = nI (if mkP kd vv k 0 = 0 ∨ mkP kd vv k 0 = 25 then mkP kd vv k 7 else mkP kd vv k 5) ∧ row (984 + (0 + 11 + 8 * k)) = nI (if mkP kd vv k 0 = 3 ∨ mkP kd vv k 0 = 4 then mkP kd vv k 6 else mkP kd vv k 4) ∧ row (984 + (0 + 12 + 8 * k)) = nI (mkP kd vv k 8) ∧ (mkP kd vv k 0 = 25 → row (984 + (0 + 13 + 8 * k)) = nI (mkP kd vv k 9))
    rw [e0, show 984 + (0 + 6 + 8 * k) = 990 + 8 * k by omega, show 984 + (0 + 7 + 8 * k) = 990 + 8 * k + 1 by omega, show 984 + (0 + 8 + 8 * k) = 990 + 8 * k + 2 by omega, show 984 + (0 + 9 + 8 * k) = 990 + 8 * k + 3 by omega, show 984 + (0 + 10 + 8 * k) = 990 + 8 * k + 4 by omega, show 984 + (0 + 11 + 8 * k) = 990 + 8 * k + 5 by omega, show 984 + (0 + 12 + 8 * k) = 990 + 8 * k + 6 by omega, show 984 + (0 + 13 + 8 * k) = 990 + 8 * k + 7 by omega, p1, r1, r2, r3, r4, r5, r6, l1, l2, l3, l4, l5, l6]
    refine ⟨rfl, v19 k hk 1 (by omega) (by omega), v19 k hk 2 (by omega) (by omega), v19 k hk 3 (by omega) (by omega), ?_, ?_, v19 k hk 8 (by omega) (by omega), fun z => ((v9 k hk).2 z).2.2.1⟩
    · by_cases c : kd k = 0 ∨ kd k = 25
      · rw [if_pos c, if_pos c]; exact v19 k hk 7 (by omega) (by omega)
      · rw [if_neg c, if_neg c]; exact v19 k hk 5 (by omega) (by omega)
    · by_cases c : kd k = 3 ∨ kd k = 4
      · rw [if_pos c, if_pos c]; exact v19 k hk 6 (by omega) (by omega)
      · rw [if_neg c, if_neg c]; exact v19 k hk 4 (by omega) (by omega)
theorem CI.prg (I : CI op g h pg m kd vv) (v : ∀ k, k < m → ∀ f, 1 ≤ f → f ≤ 9 → vv k f = nI (mkP kd vv k f)) : PgC op g h pg (m, mkP kd vv) := by
  obtain ⟨c1, c2, c3, c4, c5, c6⟩ := I
  refine ⟨c1, c2, c3, c4, c5, fun k hk => ?_⟩
  obtain ⟨d1, d2, d3, d4⟩ := c6 k hk
  exact ⟨pg + 2 + k, d1, d2, d3, fun f f1 f9 => by rw [d4]; exact v k hk f f1 f9⟩
theorem MacD.keep3 {q c v : Nat} {cc cc' : Nat → Int32} {vv : Nat → UInt64} (o : ∀ j, j < 27 → hI hc' (q + j) = hI hc (q + j) ∧ hD hc' (q + j) = hD hc (q + j)) (ec : ∀ i, c ≤ i → i < c + 5 → cc' i = cc i) (H : MacD hc q cc vv c v) : MacD hc' q cc' vv c v := by
  obtain ⟨h1, h2, h3, h4, h5, h6, h7, h8, h9⟩ := H
  have e0 : hI hc' q = hI hc q := (o 0 (by omega)).1
  refine ⟨by rw [e0, ec c (by omega) (by omega)]; exact h1, by rw [e0, ec (c + 1) (by omega) (by omega)]; exact h2, by rw [e0, ec (c + 2) (by omega) (by omega)]; exact h3, by rw [e0, ec (c + 3) (by omega) (by omega)]; exact h4, by rw [(o 20 (by omega)).1]; exact h5, by rw [(o 20 (by omega)).1, ec (c + 4) (by omega) (by omega)]; exact h6, fun r hr => ?_, ?_, ?_⟩
  · have a1 := (o (3 + 3 * r) (by omega)).2
    have a2 := (o (4 + 3 * r) (by omega)).1
    rw [← Nat.add_assoc] at a1 a2
    rw [a1, a2]
    exact h7 r hr
  · rw [(o 22 (by omega)).2, (o 23 (by omega)).1]; exact h8
  · rw [(o 25 (by omega)).2, (o 26 (by omega)).1]; exact h9
end PWF
