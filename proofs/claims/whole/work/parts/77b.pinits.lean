/-! written by wip/whole/pure/inits.py: the constructors -/
theorem tgl {T L : List (Nat × Nat)} {o : Nat} {q : Nat × Nat} (h : T[o]? = some q) : (T ++ L)[o]? = some q := by rw [List.getElem?_append_left (List.getElem?_eq_some_iff.mp h).1]; exact h
theorem tgo {T L : List (Nat × Nat)} {b : Nat} {q : Nat × Nat} (hb : T.length = b) (c : Nat) (h : L[c]? = some q) : (T ++ L)[b + c]? = some q := by rw [List.getElem?_append_right (by omega), hb, Nat.add_sub_cancel_left]; exact h
theorem max_n0 (n : Nat) (h : n < 2 ^ 31) : pJ9_max_7cf53 (nI n) 0 = nI n := by unfold pJ9_max_7cf53; rw [if_neg (nI_pos h)]
set_option maxHeartbeats 4000000 in
theorem i_row (n : Nat) (hn : n ≤ 4096) {B : Nat} {T : List (Nat × Nat)} {I : List (Nat × Nat × Int32)} {Q : List (Nat × Nat × UInt64)} {P A : List (Nat × Nat × Nat)} {g : MT} {h : CT} (H : DI B T I Q P A g h) (b : Nat) (hb : T.length = b) (o : Nat) (ho : T[o]? = some (7, 2)) : OkI B (T ++ [(22, n), (24, n)]) (I) (Q) ((o, 1, (b + 1)) :: (o, 0, b) :: P) (A) (pX8_init g h (B + o) (nI n)) := by
  have hl : o < T.length := (List.getElem?_eq_some_iff.mp ho).1
  have hN : gN g = B + b := by rw [H.N, hb]
  unfold pX8_init
  simp only [w_lt, gN_gA, hN, max_n0 n (show n < 2 ^ 31 by omega), w_na hn, nI_clamp (show n < 2 ^ 31 by omega)]
  refine ok_gq H (by simp) (by simp) ?_
  have D1 : DI B (T ++ [(22, n)]) (I) (Q) (P) (A) (gA g 22 n) (hZ h (B + b)) := by simpa using H.new (t := 22) (n := n) (B + b) (by rw [H.N]; simp [hb])
  refine ok_gq D1 (by simp) (by simp) ?_
  refine ok_tg (D1.tag (q := (7, 2)) (tgl ho)) ?_
  have D2 := D1.sR (o := o) (k := 0) (by simp [hb]; omega) b
  have D3 : DI B (T ++ [(22, n), (24, n)]) (I) (Q) ((o, 0, b) :: P) (A) (gA (gA g 22 n) 24 n) (hZ (sR (hZ h (B + b)) (B + o) 0 (some (B + b))) (B + b + 1)) := by simpa using D2.new (t := 24) (n := n) (B + b + 1) (by rw [D2.N]; simp [hb])
  refine ok_gq D3 (by simp) (by simp) ?_
  refine ok_tg (D3.tag (q := (7, 2)) (tgl ho)) ?_
  have D4 := D3.sR (o := o) (k := 1) (by simp [hb]; omega) (b + 1)
  exact ok_ret D4
set_option maxHeartbeats 4000000 in
theorem i_prog {B : Nat} {T : List (Nat × Nat)} {I : List (Nat × Nat × Int32)} {Q : List (Nat × Nat × UInt64)} {P A : List (Nat × Nat × Nat)} {g : MT} {h : CT} (H : DI B T I Q P A g h) (b : Nat) (hb : T.length = b) (o : Nat) (ho : T[o]? = some (6, 2)) : OkI B (T ++ [(25, 30)]) (I) (Q) ((o, 0, b) :: P) (A) (pX7_init g h (B + o)) := by
  have hl : o < T.length := (List.getElem?_eq_some_iff.mp ho).1
  have hN : gN g = B + b := by rw [H.N, hb]
  unfold pX7_init
  simp only [w_lt, gN_gA, hN]
  refine ok_gq H (by simp) (by simp) ?_
  have D1 : DI B (T ++ [(25, 30)]) (I) (Q) (P) (A) (gA g 25 30) (hZ h (B + b)) := by simpa using H.new (t := 25) (n := 30) (B + b) (by rw [H.N]; simp [hb])
  refine ok_gq D1 (by simp) (by simp) ?_
  refine ok_tg (D1.tag (q := (6, 2)) (tgl ho)) ?_
  have D2 := D1.sR (o := o) (k := 0) (by simp [hb]; omega) b
  exact ok_ret D2
set_option maxHeartbeats 4000000 in
theorem i_tray {B : Nat} {T : List (Nat × Nat)} {I : List (Nat × Nat × Int32)} {Q : List (Nat × Nat × UInt64)} {P A : List (Nat × Nat × Nat)} {g : MT} {h : CT} (H : DI B T I Q P A g h) (b : Nat) (hb : T.length = b) (o : Nat) (ho : T[o]? = some (10, 4)) : OkI B (T ++ [(21, 60)]) (I) (Q) ((o, 3, b) :: P) (A) (pX11_init g h (B + o)) := by
  have hl : o < T.length := (List.getElem?_eq_some_iff.mp ho).1
  have hN : gN g = B + b := by rw [H.N, hb]
  unfold pX11_init
  simp only [w_lt, gN_gA, hN]
  refine ok_gq H (by simp) (by simp) ?_
  have D1 : DI B (T ++ [(21, 60)]) (I) (Q) (P) (A) (gA g 21 60) (hZ h (B + b)) := by simpa using H.new (t := 21) (n := 60) (B + b) (by rw [H.N]; simp [hb])
  refine ok_gq D1 (by simp) (by simp) ?_
  refine ok_tg (D1.tag (q := (10, 4)) (tgl ho)) ?_
  have D2 := D1.sR (o := o) (k := 3) (by simp [hb]; omega) b
  exact ok_ret D2
set_option maxHeartbeats 4000000 in
theorem i_num {B : Nat} {T : List (Nat × Nat)} {I : List (Nat × Nat × Int32)} {Q : List (Nat × Nat × UInt64)} {P A : List (Nat × Nat × Nat)} {g : MT} {h : CT} (H : DI B T I Q P A g h) (b : Nat) (hb : T.length = b) (o : Nat) (ho : T[o]? = some (4, 2)) : OkI B (T) (I) (Q) (P) (A) (pX4_init g h (B + o)) := by
  have hl : o < T.length := (List.getElem?_eq_some_iff.mp ho).1
  have hN : gN g = B + b := by rw [H.N, hb]
  unfold pX4_init
  simp only [w_lt, gN_gA, hN]
  refine ok_gq H (by simp) (by simp) ?_
  exact ok_ret H
set_option maxHeartbeats 4000000 in
theorem i_times {E : EC} {aL : Nat} (eL : E.1 0 = .ref aL ∧ gT E.2.2 aL = 20 ∧ gL E.2.2 aL = 4) {B : Nat} {T : List (Nat × Nat)} {I : List (Nat × Nat × Int32)} {Q : List (Nat × Nat × UInt64)} {P A : List (Nat × Nat × Nat)} {g : MT} {h : CT} (H : DI B T I Q P A g h) (b : Nat) (hb : T.length = b) (o : Nat) (ho : T[o]? = some (9, 17)) : OkI B (T ++ [(20, 30), (20, 30), (20, 4), (20, 96), (20, 96), (20, 16)]) (I) (Q) ((o, 16, (b + 5)) :: (o, 15, (b + 4)) :: (o, 14, (b + 3)) :: (o, 13, (b + 2)) :: (o, 7, (b + 1)) :: (o, 6, b) :: P) (A) (pX10_init E g h (B + o)) := by
  have hl : o < T.length := (List.getElem?_eq_some_iff.mp ho).1
  have hN : gN g = B + b := by rw [H.N, hb]
  unfold pX10_init
  simp only [w_lt, gN_gA, hN, eL.1, w_kR, w_tg eL.2.1, eL.2.2, w_na4, cl4]
  refine ok_gq H (by simp) (by simp) ?_
  have D1 : DI B (T ++ [(20, 30)]) (I) (Q) (P) (A) (gA g 20 30) (hZ h (B + b)) := by simpa using H.new (t := 20) (n := 30) (B + b) (by rw [H.N]; simp [hb])
  refine ok_gq D1 (by simp) (by simp) ?_
  refine ok_tg (D1.tag (q := (9, 17)) (tgl ho)) ?_
  have D2 := D1.sR (o := o) (k := 6) (by simp [hb]; omega) b
  have D3 : DI B (T ++ [(20, 30), (20, 30)]) (I) (Q) ((o, 6, b) :: P) (A) (gA (gA g 20 30) 20 30) (hZ (sR (hZ h (B + b)) (B + o) 6 (some (B + b))) (B + b + 1)) := by simpa using D2.new (t := 20) (n := 30) (B + b + 1) (by rw [D2.N]; simp [hb])
  refine ok_gq D3 (by simp) (by simp) ?_
  refine ok_tg (D3.tag (q := (9, 17)) (tgl ho)) ?_
  have D4 := D3.sR (o := o) (k := 7) (by simp [hb]; omega) (b + 1)
  have D5 : DI B (T ++ [(20, 30), (20, 30), (20, 4)]) (I) (Q) ((o, 7, (b + 1)) :: (o, 6, b) :: P) (A) (gA (gA (gA g 20 30) 20 30) 20 4) (hZ (sR (hZ (sR (hZ h (B + b)) (B + o) 6 (some (B + b))) (B + b + 1)) (B + o) 7 (some (B + (b + 1)))) (B + b + 2)) := by simpa using D4.new (t := 20) (n := 4) (B + b + 2) (by rw [D4.N]; simp [hb])
  refine ok_gq D5 (by simp) (by simp) ?_
  refine ok_tg (D5.tag (q := (9, 17)) (tgl ho)) ?_
  have D6 := D5.sR (o := o) (k := 13) (by simp [hb]; omega) (b + 2)
  have D7 : DI B (T ++ [(20, 30), (20, 30), (20, 4), (20, 96)]) (I) (Q) ((o, 13, (b + 2)) :: (o, 7, (b + 1)) :: (o, 6, b) :: P) (A) (gA (gA (gA (gA g 20 30) 20 30) 20 4) 20 96) (hZ (sR (hZ (sR (hZ (sR (hZ h (B + b)) (B + o) 6 (some (B + b))) (B + b + 1)) (B + o) 7 (some (B + (b + 1)))) (B + b + 2)) (B + o) 13 (some (B + (b + 2)))) (B + b + 3)) := by simpa using D6.new (t := 20) (n := 96) (B + b + 3) (by rw [D6.N]; simp [hb])
  refine ok_gq D7 (by simp) (by simp) ?_
  refine ok_tg (D7.tag (q := (9, 17)) (tgl ho)) ?_
  have D8 := D7.sR (o := o) (k := 14) (by simp [hb]; omega) (b + 3)
  have D9 : DI B (T ++ [(20, 30), (20, 30), (20, 4), (20, 96), (20, 96)]) (I) (Q) ((o, 14, (b + 3)) :: (o, 13, (b + 2)) :: (o, 7, (b + 1)) :: (o, 6, b) :: P) (A) (gA (gA (gA (gA (gA g 20 30) 20 30) 20 4) 20 96) 20 96) (hZ (sR (hZ (sR (hZ (sR (hZ (sR (hZ h (B + b)) (B + o) 6 (some (B + b))) (B + b + 1)) (B + o) 7 (some (B + (b + 1)))) (B + b + 2)) (B + o) 13 (some (B + (b + 2)))) (B + b + 3)) (B + o) 14 (some (B + (b + 3)))) (B + b + 4)) := by simpa using D8.new (t := 20) (n := 96) (B + b + 4) (by rw [D8.N]; simp [hb])
  refine ok_gq D9 (by simp) (by simp) ?_
  refine ok_tg (D9.tag (q := (9, 17)) (tgl ho)) ?_
  have D10 := D9.sR (o := o) (k := 15) (by simp [hb]; omega) (b + 4)
  have D11 : DI B (T ++ [(20, 30), (20, 30), (20, 4), (20, 96), (20, 96), (20, 16)]) (I) (Q) ((o, 15, (b + 4)) :: (o, 14, (b + 3)) :: (o, 13, (b + 2)) :: (o, 7, (b + 1)) :: (o, 6, b) :: P) (A) (gA (gA (gA (gA (gA (gA g 20 30) 20 30) 20 4) 20 96) 20 96) 20 16) (hZ (sR (hZ (sR (hZ (sR (hZ (sR (hZ (sR (hZ h (B + b)) (B + o) 6 (some (B + b))) (B + b + 1)) (B + o) 7 (some (B + (b + 1)))) (B + b + 2)) (B + o) 13 (some (B + (b + 2)))) (B + b + 3)) (B + o) 14 (some (B + (b + 3)))) (B + b + 4)) (B + o) 15 (some (B + (b + 4)))) (B + b + 5)) := by simpa using D10.new (t := 20) (n := 16) (B + b + 5) (by rw [D10.N]; simp [hb])
  refine ok_gq D11 (by simp) (by simp) ?_
  refine ok_tg (D11.tag (q := (9, 17)) (tgl ho)) ?_
  have D12 := D11.sR (o := o) (k := 16) (by simp [hb]; omega) (b + 5)
  exact ok_ret D12
