/-! count, fold, top, in both -/
section CFT
variable {B b L : Nat} {E : EC} {xs : Nat → Int32} {op st bt : Nat → Nat} {aL aS aO : Nat} {g : MT} {h h1 hr hr1 : CT} {q z p : Nat} {f : Nat → Nat} {ik n nb y t T : Nat} {F : Nat → Nat → Nat} {G G0 : Nat → Nat → Int32}
/-- a number comes to a SCALAR, in both; the class's stands in x -/
theorem scal_both (S : Sh B g) (p2 : PtR B (hR hr)) (Q : QZ B q z) (R : RunC B q z g h) (D : DM B q h hr) {s : Nat} (hs : s < 4) {x : UInt64} (N : NumR (hD h (B + 136) 0) (hI h (B + 136) 1) x) :
    ∃ h', pX8_keep g h (q + 21) (nI s) (B + 136) = some h' ∧ DM B q h' (sD hr (B + 193) (96 + s) x) ∧ CFr B q h h' ∧ hI h' (B + 132) = hI h (B + 132) ∧ hI h' q = hI h q ∧ (∀ w, z ≤ w → w ≤ z + 6 → hI h' w = hI h w) := by
  have T136 := st_136 S
  have kp := row_keep (h := h) (p := B + 136) (scal_rowq R.2.2.2.1) T136 hs (by decide) N.1
  rw [show q + 21 + 1 = q + 22 from rfl, show q + 21 + 2 = q + 23 from rfl] at kp
  refine ⟨_, kp, ?_, ⟨rfl, fun w a _ _ _ _ => ((Eqa.rf h w).sD (by omega)).sI (by omega), fun j _ => by rw [hI_sI, if_neg (by omega), hI_sD], fun j _ => by rw [hI_sI, if_neg (by omega), hI_sD], fun k _ => by rw [hI_sI, if_neg (by omega), hI_sD], fun _ _ => rfl, ⟨by rw [hI_sI, if_neg (by omega), hI_sD]; exact R.2.2.2.2.2.2.1, by rw [hI_sI, if_neg (by omega), hI_sD]; exact R.2.2.2.2.2.2.2⟩⟩, by rw [hI_sI, if_neg (by omega), hI_sD], by rw [hI_sI, if_neg (by omega), hI_sD], fun w w1 w2 => by rw [hI_sI, if_neg (by omega), hI_sD]⟩
  refine MacD.scal (a := s) (w := hD h (B + 136) 0) (p := hI h (B + 136) 1) (y := x) (vv := hD hr (B + 193)) (hc := h) D hs N (fun j hj j1 j2 => ⟨?_, ?_⟩) ?_ ?_ (fun i => ?_)
  · rw [hI_sI, if_neg (by omega), hI_sD]
  · rw [hD_sI, hD_sD, if_neg (by omega)]
  · rw [hD_sI, hD_sD, if_pos rfl]
  · rw [hI_sI, if_pos rfl, hI_sD]
  · rw [hD_sD, if_pos rfl, show 0 + 96 + s = 96 + s by omega]; rfl
theorem r_bits (S : Sh B g) (p2 : PtR B (hR hr)) {m : Nat} (hm : m < 65536) (hn : n ≤ 16) (v0 : hI hr (B + 192) 0 = nI n) (m3 : hI hr (B + 192) 3 = nI m) : pX13_bits g hr (B + 187) = some (nI (cntN m n)) := by
  have := loopN (L := fun u j (s : Int32) => pX13_bits_l4 g hr (B + 187) u s (nI j)) (N := n) (Inv := fun j s => s = nI (cntN m j)) (Post := fun s => s = nI (cntN m n)) (fun u j s hj H => by
      subst H
      refine ⟨nI (cntN m j + m / 2 ^ j % 2), ?_, rfl⟩
      show pX13_bits_l4 g hr (B + 187) (u + 1) (nI (cntN m j)) (nI j) = _
      rw [pX13_bits_l4, pX13_bits_b4, w_lt, pr_187_19 p2, w_nn, w_tg (st_192 S), sl_192 S, w_ixl (show 0 < 1476 by decide) (by decide), cl_l 0 (by decide), v0, if_neg (nI_ge hj (by omega)), w_lt, w_nn, w_tg (st_192 S), sl_192 S, show (3 : Int32) = nI 3 from rfl, w_ix (show 3 < 1476 by decide) (by decide), nI_clamp (show 3 < 2 ^ 31 by decide), m3, shr_bit hm (by omega), nI_add, w_lt, w_lt, nI_1]) (fun u s H => ⟨s, by
    show pX13_bits_l4 g hr (B + 187) (u + 1) s (nI n) = _
    rw [pX13_bits_l4, pX13_bits_b4, w_lt, pr_187_19 p2, w_nn, w_tg (st_192 S), sl_192 S, w_ixl (show 0 < 1476 by decide) (by decide), cl_l 0 (by decide), v0, if_pos (nI_le (Nat.le_refl n) (by omega))], H⟩) n 0 FUEL 0 (by omega) (by unfold FUEL; omega) rfl
  obtain ⟨r, q1, rfl⟩ := this
  unfold pX13_bits
  rw [w_tg (st_187 S)]
  exact q1
/-- count -/
theorem count_both (K : EOK E b L xs op st bt aL aS aO) (S : Sh B g) (Q : QZ B q z) (X : MS B q z g nb y h hr) (I : IC op g h p f) (M : IM B hr ik f) (hf : FOK f) (hk : ik < 30) (e0 : f 0 = 22) (hn : n ≤ 16) (e5 : hI h q 5 = nI n) (v0 : hI hr (B + 192) 0 = nI n) (C : TC z h F G) (Ct : TR B y hr F G) (hF : ∀ a j, F a j ≤ T) (hT : T + 200 < 2 ^ 30) (h8 : F 0 8 = t + 1) :
    ∃ h' hr', pX9_doAtOnce E g h (B + 132) (nI ik) p = some (1, h') ∧ pX13_counts g hr (B + 187) (nI ik) (nI t) = some hr' ∧ MS B q z g nb y h' hr' ∧ TC z h' (enF (up2 F 0 12 (max (F 0 12) t)) (t + 1)) (up2 G 2 ik (nI (t + 1))) ∧ TR B y hr' (enF (up2 F 0 12 (max (F 0 12) t)) (t + 1)) (up2 G 2 ik (nI (t + 1))) ∧ NFr B q z h h' ∧ MFr B hr hr' ∧ ∀ j, j = 3 ∨ j = 4 ∨ j = 5 → hI h' z j = hI h z j := by
  obtain ⟨R, p2, D, ⟨e6, e7⟩, ⟨v1, v2⟩, eb, tr0, ov0⟩ := X
  have T136 := st_136 S
  obtain ⟨m, m1, m2, m3⟩ := dm_mk D
  have u8 := hF 0 8
  have u12 := hF 0 12
  have u0 := hF 0 0
  have hp := ic_out S I.1
  have s4 := hf.2.2.2.2.1
  have X1 : XFr B h (numW h (B + 136) (fi2d (nI (cntN m n))) 0) := (XFr.rf R.2.2.2.2.2.2).x is01_0
  have R1 := X1.run R
  have D1 := X1.dm Q D
  have N1 : NumR (hD (numW h (B + 136) (fi2d (nI (cntN m n))) 0) (B + 136) 0) (hI (numW h (B + 136) (fi2d (nI (cntN m n))) 0) (B + 136) 1) (fi2d (nI (cntN m n))) := by
    rw [numW_d, numW_i]; exact NumR_ok (fi2d_nn _)
  have I1 := X1.ic I hp
  have ez : ∀ w, z ≤ w → w ≤ z + 6 → hI (numW h (B + 136) (fi2d (nI (cntN m n))) 0) w = hI h w := fun w w1 w2 => X1.zz Q w1 w2
  have eB : hI (numW h (B + 136) (fi2d (nI (cntN m n))) 0) (B + 132) = hI h (B + 132) := X1.br
  have eq' : hI (numW h (B + 136) (fi2d (nI (cntN m n))) 0) q = hI h q := (X1.2.1 q (by omega) (by omega) (by omega)).1
  have st1 : pX4_set g h (B + 136) (fi2d (nI (cntN m n))) = some (numW h (B + 136) (fi2d (nI (cntN m n))) 0) := n_set T136 _
  generalize numW h (B + 136) (fi2d (nI (cntN m n))) 0 = hx at *
  obtain ⟨h2, k1, k2, k3, k4, k5, k6⟩ := scal_both S p2 Q R1 D1 s4 N1
  have R2 := k3.run Q R1
  have C2 : TC z h2 F G := C.rw fun w w1 w2 => (k6 w w1 w2).trans (ez w w1 w2)
  obtain ⟨h3, f1, f2, f3⟩ := t_count R2.2.2.2.2.1 C2 hk hF (by omega) h8
  have cl : pX9_doAtOnce E g h (B + 132) (nI ik) p = some (1, h3) := by
    rw [k_sw K S I hf, e0]
    show (if (3 : Int32) = 1 then _ else if (3 : Int32) = 2 then _ else if (3 : Int32) = 3 then _ else _) = _
    rw [if_neg (by decide), if_neg (by decide), if_pos rfl, w_lt, w_lt, R.2.1, w_nn, w_tg R.2.2.2.1.1, w_lt, w_nn, w_tg R.2.2.2.1.1]
    unfold pX3_lowBits
    rw [w_tg R.2.2.2.1.1, e5, w_bd, pc_132_2 R.1, w_nn, w_tg T136, m2, bc_low m1 hn, st1, w_bd, w_lt, R1.2.1, w_nn, w_tg R1.2.2.2.1.1, w_lt, R1.2.2.2.1.2.2.2.2.2.2.2.2.1, w_lt, pc_132_2 R1.1, w_nn, w_tg (scal_rowq R1.2.2.2.1).1, w_nn, I1.2.2 4 (by decide) (by decide), k1, w_bd, w_lt, R2.2.2.1, w_nn, w_tg R2.2.2.2.2.1.1, f1, w_bd]
  -- the reference
  have a5 := (im_at S p2 hk M).2.2.2.2.2.1
  rw [if_neg (show ¬ (f 0 = 3 ∨ f 0 = 4) by omega)] at a5
  have fm : MFr B hr (sD hr (B + 193) (96 + f 4) (fi2d (nI (cntN m n)))) := ⟨rfl, fun w a c => (Eqa.rf hr w).sD (by omega), fun _ _ => rfl, rfl, fun _ _ => rfl, fun i hi => by rw [hD_sD, if_pos rfl, ud_n (by omega)]⟩
  have Ct1 : TR B y (sD hr (B + 193) (96 + f 4) (fi2d (nI (cntN m n)))) F G := Ct.rw (fun _ _ => rfl) (fun _ _ _ => rfl)
  have e12 : hI (sD hr (B + 193) (96 + f 4) (fi2d (nI (cntN m n)))) (B + 187) 30 = nI (F 0 12) := Ct1.1 12 (by decide)
  have Ct2 : TR B y (sI (sD hr (B + 193) (96 + f 4) (fi2d (nI (cntN m n)))) (B + 187) 30 (nI (max (F 0 12) t))) (up2 F 0 12 (max (F 0 12) t)) G := Ct1.o (j := 12) (v := max (F 0 12) t) (by decide)
  have fr2 : RFr B (sD hr (B + 193) (96 + f 4) (fi2d (nI (cntN m n)))) (sI (sD hr (B + 193) (96 + f 4) (fi2d (nI (cntN m n)))) (B + 187) 30 (nI (max (F 0 12) t))) := (RFr.rf B _).o (by decide)
  obtain ⟨hr4, g1, g2, g3⟩ := r_ends (h := sI (sD hr (B + 193) (96 + f 4) (fi2d (nI (cntN m n)))) (B + 187) 30 (nI (max (F 0 12) t))) (ik := ik) S p2 Ct2 (e := t + 1) (T := T) hk (by omega) (fun a j => by
    unfold up2
    split
    · omega
    · exact hF a j) (by omega)
  have fr4 := fr2.tr g3
  refine ⟨h3, hr4, cl, ?_, ⟨f3.run Q R2, ?_, fr4.dm (f3.dm Q k2), ⟨?_, ?_⟩, ⟨?_, ?_⟩, ?_, ?_, ?_⟩, f2, g2, (X1.c Q).nf.tr (k3.nf.tr (f3.nf Q R2.2.2.2.2.2.2)), fm.tr fr4.m, fun j hj => ?_⟩
  · unfold pX13_counts
    rw [w_tg (st_187 S), w_lt, pr_187_20 p2, a5, w_bd, r_bits S p2 m1 hn v0 m3, w_bd, w_nn, w_tg (st_193 S), sl_193 S, show (96 : Int32) + nI (f 4) = nI (96 + f 4) from nI_add 96 (f 4), w_ix (show 96 + f 4 < 984 by omega) (by decide), nI_clamp (by omega), w_lt, e12, max_nI (by omega) (by omega), w_lt, nI_1, g1, w_bd]
  · rw [fr4.1]; exact p2
  · rw [(f3.2.1 q (by omega)).1, k5, eq']; exact e6
  · rw [(f3.2.1 q (by omega)).1, k5, eq']; exact e7
  · rw [(fr4.2.1 (B + 192) (by omega) (by omega)).1]; exact v1
  · rw [(fr4.2.1 (B + 192) (by omega) (by omega)).1]; exact v2
  · rw [fr4.2.2.1 33 (by decide) (by decide), f3.br Q, k4, eB]; exact eb
  · rw [fr4.2.2.1 37 (by decide) (by decide)]; exact tr0
  · rw [fr4.2.2.1 40 (by decide) (by decide)]; exact ov0
  · rw [f3.2.2 j hj, k6 z (Nat.le_refl z) (Nat.le_add_right z 6), ez z (Nat.le_refl z) (Nat.le_add_right z 6)]
/-- the reference READS the row -/
theorem r_foldreads (S : Sh B g) (p0 : PtR B (hR hr)) (Ct : TR B y hr F G) (hk : ik < 30) (hf : FOK f) (hn : n ≤ 16) (v0 : hI hr (B + 192) 0 = nI n) (hF : ∀ a j, F a j ≤ T) (hT : T + 100 < 2 ^ 30) (ht : t ≤ T) {Fin : CT → Option CT} (hfin : ∀ x u, RFr B hr x → pX13_folds_l35 g (B + 187) (nI ik) (nI t) (u + 1) (nI (f 1)) (nI n) x = Fin x) :
    ∃ hr1, pX13_folds_b32 g (B + 187) (nI ik) (nI t) (nI (f 1)) hr = Fin hr1 ∧ TR B y hr1 (foF F (f 1) n t) G ∧ RFr B hr hr1 := by
  have key : ∀ (d j u : Nat) (x : CT), j + d = n → d < u → TR B y x (foF F (f 1) j t) G → RFr B hr x → ∃ hr1, pX13_folds_l35 g (B + 187) (nI ik) (nI t) u (nI (f 1)) (nI j) x = Fin hr1 ∧ TR B y hr1 (foF F (f 1) n t) G ∧ RFr B hr hr1 := by
    intro d
    induction d with
    | zero =>
      intro j u x hj hu C fr
      obtain ⟨u, rfl⟩ : ∃ k, u = k + 1 := ⟨u - 1, by omega⟩
      obtain rfl : j = n := by omega
      exact ⟨x, hfin x u fr, C, fr⟩
    | succ d ih =>
      intro j u x hj hu C fr
      obtain ⟨u, rfl⟩ : ∃ k, u = k + 1 := ⟨u - 1, by omega⟩
      have px : PtR B (hR x) := by rw [fr.1]; exact p0
      have vx : hI x (B + 192) 0 = nI n := by rw [(fr.2.1 (B + 192) (by omega) (by omega)).1]; exact v0
      have l5 := foF_le (d := f 1) (n := j) (t := t) hF ht 5 (16 * f 1 + j)
      have C1 : TR B y (sI x (B + 195) (16 * f 1 + j) (nI (max (foF F (f 1) j t 5 (16 * f 1 + j)) t))) (foF F (f 1) (j + 1) t) G := (C.a (a := 5) (k := 16 * f 1 + j) (v := max (foF F (f 1) j t 5 (16 * f 1 + j)) t) (by decide) (by decide)).to (fun a i _ => foF_1 F (f 1) j t a i) (fun _ _ => rfl)
      obtain ⟨hr1, a1, a2, a3⟩ := ih (j + 1) u _ (by omega) (by omega) C1 (fr.a (by decide) (by decide))
      refine ⟨hr1, ?_, a2, a3⟩
      rw [← a1, pX13_folds_l35, pX13_folds_b35, w_lt, pr_187_19 px, w_nn, w_tg (st_192 S), sl_192 S, w_ixl (show 0 < 1476 by decide) (by decide), cl_l 0 (by decide), vx, if_neg (nI_ge (show j < n by omega) (by omega)), r_reads S px C hf.2.1 (by omega) (by omega) (by omega), w_bd, w_lt, nI_1]
  unfold pX13_folds_b32
  exact key n 0 FUEL hr (by omega) (by unfold FUEL; omega) (Ct.to (fun a j _ => foF_0 F (f 1) t a j) (fun _ _ => rfl)) (RFr.rf B hr)
end CFT
