/-! written by wip/whole/pure/inits.py: the two whole objects -/
theorem w_ixl {α : Type} {n i : Nat} (h : i < n) (hn : n < 2 ^ 31) (k : Option α) : ix n (OfNat.ofNat i : Int32) k = k := w_ix h hn k
theorem cl_l (i : Nat) (h : i < 2 ^ 31) : Int32.toNatClampNeg (OfNat.ofNat i : Int32) = i := nI_clamp h
set_option maxRecDepth 100000 in
set_option maxHeartbeats 20000000 in
theorem i_class {E : EC} {aL s0 : Nat} (eL : E.1 0 = .ref aL ∧ gT E.2.2 aL = 20 ∧ gL E.2.2 aL = 4) (eS : E.1 50 = .ref s0) {B : Nat} {T : List (Nat × Nat)} {I : List (Nat × Nat × Int32)} {Q : List (Nat × Nat × UInt64)} {P A : List (Nat × Nat × Nat)} {g : MT} {h : CT} (H : DI B T I Q P A g h) (b : Nat) (hb : T.length = b) (o : Nat) (ho : T[o]? = some (11, 20)) (hpx : ∀ c, lk none (List.map (fun q : Nat × Nat × Nat => (q.1, q.2.1, some q.2.2)) P) (b + c) 9 = none) : OkI B (T ++ [(28, 4), (10, 4), (21, 60), (10, 4), (21, 60), (10, 4), (21, 60), (10, 4), (21, 60), (23, 900), (5, 12), (23, 0), (3, 9), (27, 6), (7, 2), (22, 16), (24, 16), (7, 2), (22, 16), (24, 16), (7, 2), (22, 16), (24, 16), (7, 2), (22, 16), (24, 16), (7, 2), (22, 16), (24, 16), (7, 2), (22, 16), (24, 16), (24, 6), (7, 2), (22, 4), (24, 4), (7, 2), (22, 64), (24, 64), (6, 2), (25, 30), (26, 3), (3, 9), (27, 6), (7, 2), (22, 16), (24, 16), (7, 2), (22, 16), (24, 16), (7, 2), (22, 16), (24, 16), (7, 2), (22, 16), (24, 16), (7, 2), (22, 16), (24, 16), (7, 2), (22, 16), (24, 16), (24, 6), (7, 2), (22, 4), (24, 4), (7, 2), (22, 64), (24, 64), (6, 2), (25, 30), (3, 9), (27, 6), (7, 2), (22, 16), (24, 16), (7, 2), (22, 16), (24, 16), (7, 2), (22, 16), (24, 16), (7, 2), (22, 16), (24, 16), (7, 2), (22, 16), (24, 16), (7, 2), (22, 16), (24, 16), (24, 6), (7, 2), (22, 4), (24, 4), (7, 2), (22, 64), (24, 64), (6, 2), (25, 30), (3, 9), (27, 6), (7, 2), (22, 16), (24, 16), (7, 2), (22, 16), (24, 16), (7, 2), (22, 16), (24, 16), (7, 2), (22, 16), (24, 16), (7, 2), (22, 16), (24, 16), (7, 2), (22, 16), (24, 16), (24, 6), (7, 2), (22, 4), (24, 4), (7, 2), (22, 64), (24, 64), (6, 2), (25, 30), (1, 5), (22, 10), (8, 11), (7, 2), (22, 16), (24, 16), (4, 2), (4, 2), (9, 17), (20, 30), (20, 30), (20, 4), (20, 96), (20, 96), (20, 16), (3, 9), (27, 6), (7, 2), (22, 16), (24, 16), (7, 2), (22, 16), (24, 16), (7, 2), (22, 16), (24, 16), (7, 2), (22, 16), (24, 16), (7, 2), (22, 16), (24, 16), (7, 2), (22, 16), (24, 16), (24, 6), (7, 2), (22, 4), (24, 4), (7, 2), (22, 64), (24, 64), (6, 2), (25, 30), (6, 2), (25, 30), (9, 17), (20, 30), (20, 30), (20, 4), (20, 96), (20, 96), (20, 16), (4, 2), (4, 2), (4, 2), (4, 2)]) (((b + 144), 7, 4) :: ((b + 144), 6, 8) :: ((b + 144), 5, 16) :: ((b + 100), 7, 4) :: ((b + 100), 6, 8) :: ((b + 100), 5, 16) :: ((b + 71), 7, 4) :: ((b + 71), 6, 8) :: ((b + 71), 5, 16) :: ((b + 42), 7, 4) :: ((b + 42), 6, 8) :: ((b + 42), 5, 16) :: ((b + 12), 7, 4) :: ((b + 12), 6, 8) :: ((b + 12), 5, 16) :: ((b + 10), 1, (-1)) :: ((b + 10), 0, (-1)) :: I) (((b + 130), 9, (pwv 9)) :: ((b + 130), 8, (pwv 8)) :: ((b + 130), 7, (pwv 7)) :: ((b + 130), 6, (pwv 6)) :: ((b + 130), 5, (pwv 5)) :: ((b + 130), 4, (pwv 4)) :: ((b + 130), 3, (pwv 3)) :: ((b + 130), 2, (pwv 2)) :: ((b + 130), 1, (pwv 1)) :: ((b + 130), 0, (pwv 0)) :: Q) ((o, 18, (b + 185)) :: (o, 17, (b + 184)) :: (o, 16, (b + 183)) :: (o, 15, (b + 182)) :: (o, 13, (b + 175)) :: ((b + 175), 16, (b + 181)) :: ((b + 175), 15, (b + 180)) :: ((b + 175), 14, (b + 179)) :: ((b + 175), 13, (b + 178)) :: ((b + 175), 7, (b + 177)) :: ((b + 175), 6, (b + 176)) :: (o, 12, (b + 173)) :: ((b + 173), 0, (b + 174)) :: (o, 11, (b + 144)) :: ((b + 144), 8, (b + 171)) :: ((b + 171), 0, (b + 172)) :: ((b + 144), 3, (b + 168)) :: ((b + 168), 1, (b + 170)) :: ((b + 168), 0, (b + 169)) :: ((b + 144), 2, (b + 165)) :: ((b + 165), 1, (b + 167)) :: ((b + 165), 0, (b + 166)) :: ((b + 144), 1, (b + 164)) :: ((b + 145), 5, (b + 161)) :: ((b + 161), 1, (b + 163)) :: ((b + 161), 0, (b + 162)) :: ((b + 145), 4, (b + 158)) :: ((b + 158), 1, (b + 160)) :: ((b + 158), 0, (b + 159)) :: ((b + 145), 3, (b + 155)) :: ((b + 155), 1, (b + 157)) :: ((b + 155), 0, (b + 156)) :: ((b + 145), 2, (b + 152)) :: ((b + 152), 1, (b + 154)) :: ((b + 152), 0, (b + 153)) :: ((b + 145), 1, (b + 149)) :: ((b + 149), 1, (b + 151)) :: ((b + 149), 0, (b + 150)) :: ((b + 145), 0, (b + 146)) :: ((b + 146), 1, (b + 148)) :: ((b + 146), 0, (b + 147)) :: ((b + 144), 0, (b + 145)) :: (o, 8, (b + 137)) :: ((b + 137), 16, (b + 143)) :: ((b + 137), 15, (b + 142)) :: ((b + 137), 14, (b + 141)) :: ((b + 137), 13, (b + 140)) :: ((b + 137), 7, (b + 139)) :: ((b + 137), 6, (b + 138)) :: (o, 7, (b + 131)) :: ((b + 131), 3, (b + 136)) :: ((b + 131), 2, (b + 135)) :: ((b + 131), 1, (b + 132)) :: ((b + 132), 1, (b + 134)) :: ((b + 132), 0, (b + 133)) :: ((b + 131), 0, (b + 129)) :: (o, 14, (b + 129)) :: ((b + 129), 2, (b + 130)) :: ((b + 41), 2, (b + 100)) :: ((b + 100), 8, (b + 127)) :: ((b + 127), 0, (b + 128)) :: ((b + 100), 3, (b + 124)) :: ((b + 124), 1, (b + 126)) :: ((b + 124), 0, (b + 125)) :: ((b + 100), 2, (b + 121)) :: ((b + 121), 1, (b + 123)) :: ((b + 121), 0, (b + 122)) :: ((b + 100), 1, (b + 120)) :: ((b + 101), 5, (b + 117)) :: ((b + 117), 1, (b + 119)) :: ((b + 117), 0, (b + 118)) :: ((b + 101), 4, (b + 114)) :: ((b + 114), 1, (b + 116)) :: ((b + 114), 0, (b + 115)) :: ((b + 101), 3, (b + 111)) :: ((b + 111), 1, (b + 113)) :: ((b + 111), 0, (b + 112)) :: ((b + 101), 2, (b + 108)) :: ((b + 108), 1, (b + 110)) :: ((b + 108), 0, (b + 109)) :: ((b + 101), 1, (b + 105)) :: ((b + 105), 1, (b + 107)) :: ((b + 105), 0, (b + 106)) :: ((b + 101), 0, (b + 102)) :: ((b + 102), 1, (b + 104)) :: ((b + 102), 0, (b + 103)) :: ((b + 100), 0, (b + 101)) :: ((b + 41), 1, (b + 71)) :: ((b + 71), 8, (b + 98)) :: ((b + 98), 0, (b + 99)) :: ((b + 71), 3, (b + 95)) :: ((b + 95), 1, (b + 97)) :: ((b + 95), 0, (b + 96)) :: ((b + 71), 2, (b + 92)) :: ((b + 92), 1, (b + 94)) :: ((b + 92), 0, (b + 93)) :: ((b + 71), 1, (b + 91)) :: ((b + 72), 5, (b + 88)) :: ((b + 88), 1, (b + 90)) :: ((b + 88), 0, (b + 89)) :: ((b + 72), 4, (b + 85)) :: ((b + 85), 1, (b + 87)) :: ((b + 85), 0, (b + 86)) :: ((b + 72), 3, (b + 82)) :: ((b + 82), 1, (b + 84)) :: ((b + 82), 0, (b + 83)) :: ((b + 72), 2, (b + 79)) :: ((b + 79), 1, (b + 81)) :: ((b + 79), 0, (b + 80)) :: ((b + 72), 1, (b + 76)) :: ((b + 76), 1, (b + 78)) :: ((b + 76), 0, (b + 77)) :: ((b + 72), 0, (b + 73)) :: ((b + 73), 1, (b + 75)) :: ((b + 73), 0, (b + 74)) :: ((b + 71), 0, (b + 72)) :: ((b + 41), 0, (b + 42)) :: ((b + 42), 8, (b + 69)) :: ((b + 69), 0, (b + 70)) :: ((b + 42), 3, (b + 66)) :: ((b + 66), 1, (b + 68)) :: ((b + 66), 0, (b + 67)) :: ((b + 42), 2, (b + 63)) :: ((b + 63), 1, (b + 65)) :: ((b + 63), 0, (b + 64)) :: ((b + 42), 1, (b + 62)) :: ((b + 43), 5, (b + 59)) :: ((b + 59), 1, (b + 61)) :: ((b + 59), 0, (b + 60)) :: ((b + 43), 4, (b + 56)) :: ((b + 56), 1, (b + 58)) :: ((b + 56), 0, (b + 57)) :: ((b + 43), 3, (b + 53)) :: ((b + 53), 1, (b + 55)) :: ((b + 53), 0, (b + 54)) :: ((b + 43), 2, (b + 50)) :: ((b + 50), 1, (b + 52)) :: ((b + 50), 0, (b + 51)) :: ((b + 43), 1, (b + 47)) :: ((b + 47), 1, (b + 49)) :: ((b + 47), 0, (b + 48)) :: ((b + 43), 0, (b + 44)) :: ((b + 44), 1, (b + 46)) :: ((b + 44), 0, (b + 45)) :: ((b + 42), 0, (b + 43)) :: (o, 5, (b + 41)) :: (o, 4, (b + 12)) :: ((b + 12), 8, (b + 39)) :: ((b + 39), 0, (b + 40)) :: ((b + 12), 3, (b + 36)) :: ((b + 36), 1, (b + 38)) :: ((b + 36), 0, (b + 37)) :: ((b + 12), 2, (b + 33)) :: ((b + 33), 1, (b + 35)) :: ((b + 33), 0, (b + 34)) :: ((b + 12), 1, (b + 32)) :: ((b + 13), 5, (b + 29)) :: ((b + 29), 1, (b + 31)) :: ((b + 29), 0, (b + 30)) :: ((b + 13), 4, (b + 26)) :: ((b + 26), 1, (b + 28)) :: ((b + 26), 0, (b + 27)) :: ((b + 13), 3, (b + 23)) :: ((b + 23), 1, (b + 25)) :: ((b + 23), 0, (b + 24)) :: ((b + 13), 2, (b + 20)) :: ((b + 20), 1, (b + 22)) :: ((b + 20), 0, (b + 21)) :: ((b + 13), 1, (b + 17)) :: ((b + 17), 1, (b + 19)) :: ((b + 17), 0, (b + 18)) :: ((b + 13), 0, (b + 14)) :: ((b + 14), 1, (b + 16)) :: ((b + 14), 0, (b + 15)) :: ((b + 12), 0, (b + 13)) :: (o, 3, (b + 10)) :: ((b + 10), 2, (b + 11)) :: (o, 1, (b + 9)) :: (b, 3, (b + 7)) :: ((b + 7), 3, (b + 8)) :: (b, 2, (b + 5)) :: ((b + 5), 3, (b + 6)) :: (b, 1, (b + 3)) :: ((b + 3), 3, (b + 4)) :: (b, 0, (b + 1)) :: ((b + 1), 3, (b + 2)) :: (o, 0, b) :: P) (((b + 10), 9, s0) :: A) (pX12_init E g h (B + o)) := by
  have hl : o < T.length := (List.getElem?_eq_some_iff.mp ho).1
  have hN : gN g = B + b := by rw [H.N, hb]
  have hne : ∀ c : Nat, (o = b + c) = False := fun c => by apply eq_false; omega
  have hne0 : (o = b) = False := by apply eq_false; omega
  have hno : ∀ c : Nat, (b + c = o) = False := fun c => by apply eq_false; omega
  unfold pX12_init
  try simp only [w_lt, gN_gA, hN]
  refine ok_gq H (le_app0) (sum_app0) ?_
  have D1 := H.new (t := 28) (n := 4) (B + b) (by rw [H.N, hb])
  refine ok_gq D1 (le_app (by decide +kernel)) (sum_app (by decide +kernel)) ?_
  refine ok_tg (D1.tag (q := (11, 20)) (tgl ho)) ?_
  have D2 := D1.aR (o := o) (k := 0) (lt_app hl) b
  rw [show FUEL = 4995 + 1 + 1 + 1 + 1 + 1 from rfl, show (0 : Int32) = nI 0 from rfl]
  rw [pX12_init_l14, pX12_init_b14, if_neg (show ¬ 4 ≤ nI 0 from nI_ge (b := 4) (by decide) (by decide))]
  refine ok_tg (D2.tag (q := (11, 20)) (tgl ho)) ?_
  have pt0 : hR (sR (hZ h (B + b)) (B + o) 0 (some (B + b))) (B + o) 0 = some (B + b) := (D2.ptr (lt_app hl)).trans (by simp [lkP, lk, Nat.add_assoc, hne, hne0])
  simp only [w_lt, gN_gA, pt0, hN]
  have D3 := D2.new2 (t := 10) (n := 4) (B + b + 1) (by rw [D2.N, List.length_append, hb]; rfl)
  refine ok_gq D3 (le_app (by decide +kernel)) (sum_app (by decide +kernel)) ?_
  refine ok_tg (D3.tag (q := (10, 4)) (tgo hb 1 rfl)) ?_
  refine ok_bd2 (i_tray D3 (b + 2) (by rw [List.length_append, hb]; rfl) (b + 1) (tgo hb 1 rfl)) (fun g4 h4 D4 => ?_)
  replace D4 := D4.reT
  have hN4 : gN g4 = B + b + 3 := by rw [D4.N, List.length_append, hb]; rfl
  try simp only [w_lt, gN_gA, hN4]
  refine ok_gq D4 (le_app (by decide +kernel)) (sum_app (by decide +kernel)) ?_
  rw [w_nn]
  refine ok_tg (D4.tag (q := (28, 4)) (tgo hb 0 rfl)) ?_
  rw [show gL g4 (B + b) = 4 from D4.len (q := (28, 4)) (tgo hb 0 rfl), w_ix (show 0 < 4 by decide) (by decide), show (nI 0).toNatClampNeg = 0 from by decide]
  refine ok_tg (D4.tag (q := (10, 4)) (tgo hb 1 rfl)) ?_
  have D5 := D4.aR (o := b) (k := 0) (lt_apo hb (c := 0) (by decide)) (b + 1)
  simp only [w_lt, show nI 0 + 1 = nI 1 from by decide]
  rw [pX12_init_l14, pX12_init_b14, if_neg (show ¬ 4 ≤ nI 1 from nI_ge (b := 4) (by decide) (by decide))]
  refine ok_tg (D5.tag (q := (11, 20)) (tgl ho)) ?_
  have pt1 : hR (sR h4 (B + b) 0 (some (B + b + 1))) (B + o) 0 = some (B + b) := (D5.ptr (lt_app hl)).trans (by simp [lkP, lk, Nat.add_assoc, hne, hne0])
  simp only [w_lt, gN_gA, pt1, hN4]
  have D6 := D5.new2 (t := 10) (n := 4) (B + b + 3) (by rw [D5.N, List.length_append, hb]; rfl)
  refine ok_gq D6 (le_app (by decide +kernel)) (sum_app (by decide +kernel)) ?_
  refine ok_tg (D6.tag (q := (10, 4)) (tgo hb 3 rfl)) ?_
  refine ok_bd2 (i_tray D6 (b + 4) (by rw [List.length_append, hb]; rfl) (b + 3) (tgo hb 3 rfl)) (fun g7 h7 D7 => ?_)
  replace D7 := D7.reT
  have hN7 : gN g7 = B + b + 5 := by rw [D7.N, List.length_append, hb]; rfl
  try simp only [w_lt, gN_gA, hN7]
  refine ok_gq D7 (le_app (by decide +kernel)) (sum_app (by decide +kernel)) ?_
  rw [w_nn]
  refine ok_tg (D7.tag (q := (28, 4)) (tgo hb 0 rfl)) ?_
  rw [show gL g7 (B + b) = 4 from D7.len (q := (28, 4)) (tgo hb 0 rfl), w_ix (show 1 < 4 by decide) (by decide), show (nI 1).toNatClampNeg = 1 from by decide]
  refine ok_tg (D7.tag (q := (10, 4)) (tgo hb 3 rfl)) ?_
  have D8 := D7.aR (o := b) (k := 1) (lt_apo hb (c := 0) (by decide)) (b + 3)
  simp only [w_lt, show nI 1 + 1 = nI 2 from by decide]
  rw [pX12_init_l14, pX12_init_b14, if_neg (show ¬ 4 ≤ nI 2 from nI_ge (b := 4) (by decide) (by decide))]
  refine ok_tg (D8.tag (q := (11, 20)) (tgl ho)) ?_
  have pt2 : hR (sR h7 (B + b) 1 (some (B + b + 3))) (B + o) 0 = some (B + b) := (D8.ptr (lt_app hl)).trans (by simp [lkP, lk, Nat.add_assoc, hne, hne0])
  simp only [w_lt, gN_gA, pt2, hN7]
  have D9 := D8.new2 (t := 10) (n := 4) (B + b + 5) (by rw [D8.N, List.length_append, hb]; rfl)
  refine ok_gq D9 (le_app (by decide +kernel)) (sum_app (by decide +kernel)) ?_
  refine ok_tg (D9.tag (q := (10, 4)) (tgo hb 5 rfl)) ?_
  refine ok_bd2 (i_tray D9 (b + 6) (by rw [List.length_append, hb]; rfl) (b + 5) (tgo hb 5 rfl)) (fun g10 h10 D10 => ?_)
  replace D10 := D10.reT
  have hN10 : gN g10 = B + b + 7 := by rw [D10.N, List.length_append, hb]; rfl
  try simp only [w_lt, gN_gA, hN10]
  refine ok_gq D10 (le_app (by decide +kernel)) (sum_app (by decide +kernel)) ?_
  rw [w_nn]
  refine ok_tg (D10.tag (q := (28, 4)) (tgo hb 0 rfl)) ?_
  rw [show gL g10 (B + b) = 4 from D10.len (q := (28, 4)) (tgo hb 0 rfl), w_ix (show 2 < 4 by decide) (by decide), show (nI 2).toNatClampNeg = 2 from by decide]
  refine ok_tg (D10.tag (q := (10, 4)) (tgo hb 5 rfl)) ?_
  have D11 := D10.aR (o := b) (k := 2) (lt_apo hb (c := 0) (by decide)) (b + 5)
  simp only [w_lt, show nI 2 + 1 = nI 3 from by decide]
  rw [pX12_init_l14, pX12_init_b14, if_neg (show ¬ 4 ≤ nI 3 from nI_ge (b := 4) (by decide) (by decide))]
  refine ok_tg (D11.tag (q := (11, 20)) (tgl ho)) ?_
  have pt3 : hR (sR h10 (B + b) 2 (some (B + b + 5))) (B + o) 0 = some (B + b) := (D11.ptr (lt_app hl)).trans (by simp [lkP, lk, Nat.add_assoc, hne, hne0])
  simp only [w_lt, gN_gA, pt3, hN10]
  have D12 := D11.new2 (t := 10) (n := 4) (B + b + 7) (by rw [D11.N, List.length_append, hb]; rfl)
  refine ok_gq D12 (le_app (by decide +kernel)) (sum_app (by decide +kernel)) ?_
  refine ok_tg (D12.tag (q := (10, 4)) (tgo hb 7 rfl)) ?_
  refine ok_bd2 (i_tray D12 (b + 8) (by rw [List.length_append, hb]; rfl) (b + 7) (tgo hb 7 rfl)) (fun g13 h13 D13 => ?_)
  replace D13 := D13.reT
  have hN13 : gN g13 = B + b + 9 := by rw [D13.N, List.length_append, hb]; rfl
  try simp only [w_lt, gN_gA, hN13]
  refine ok_gq D13 (le_app (by decide +kernel)) (sum_app (by decide +kernel)) ?_
  rw [w_nn]
  refine ok_tg (D13.tag (q := (28, 4)) (tgo hb 0 rfl)) ?_
  rw [show gL g13 (B + b) = 4 from D13.len (q := (28, 4)) (tgo hb 0 rfl), w_ix (show 3 < 4 by decide) (by decide), show (nI 3).toNatClampNeg = 3 from by decide]
  refine ok_tg (D13.tag (q := (10, 4)) (tgo hb 7 rfl)) ?_
  have D14 := D13.aR (o := b) (k := 3) (lt_apo hb (c := 0) (by decide)) (b + 7)
  simp only [w_lt, show nI 3 + 1 = nI 4 from by decide]
  rw [pX12_init_l14, pX12_init_b14, if_pos (show 4 ≤ nI 4 from nI_le (a := 4) (by decide) (by decide))]
  simp only [w_lt, gN_gA, hN13]
  have D15 := D14.new2 (t := 23) (n := 900) (B + b + 9) (by rw [D14.N, List.length_append, hb]; rfl)
  refine ok_gq D15 (le_app (by decide +kernel)) (sum_app (by decide +kernel)) ?_
  refine ok_tg (D15.tag (q := (11, 20)) (tgl ho)) ?_
  have D16 := D15.aR (o := o) (k := 1) (lt_app hl) (b + 9)
  have D17 := D16.new2 (t := 5) (n := 12) (B + b + 10) (by rw [D16.N, List.length_append, hb]; rfl)
  refine ok_gq D17 (le_app (by decide +kernel)) (sum_app (by decide +kernel)) ?_
  refine ok_tg (D17.tag (q := (5, 12)) (tgo hb 10 rfl)) ?_
  refine ok_bd2 (i_parser eS D17 (b + 11) (by rw [List.length_append, hb]; rfl) (b + 10) (tgo hb 10 rfl) (by simp [lk, Nat.add_assoc, hno, hpx])) (fun g18 h18 D18 => ?_)
  replace D18 := D18.reT
  have hN18 : gN g18 = B + b + 12 := by rw [D18.N, List.length_append, hb]; rfl
  try simp only [w_lt, gN_gA, hN18]
  refine ok_gq D18 (le_app (by decide +kernel)) (sum_app (by decide +kernel)) ?_
  refine ok_tg (D18.tag (q := (11, 20)) (tgl ho)) ?_
  have D19 := D18.aR (o := o) (k := 3) (lt_app hl) (b + 10)
  have D20 := D19.new2 (t := 3) (n := 9) (B + b + 12) (by rw [D19.N, List.length_append, hb]; rfl)
  refine ok_gq D20 (le_app (by decide +kernel)) (sum_app (by decide +kernel)) ?_
  refine ok_tg (D20.tag (q := (3, 9)) (tgo hb 12 rfl)) ?_
  refine ok_bd2 (i_mach D20 (b + 13) (by rw [List.length_append, hb]; rfl) (b + 12) (tgo hb 12 rfl)) (fun g21 h21 D21 => ?_)
  replace D21 := D21.reT
  have hN21 : gN g21 = B + b + 41 := by rw [D21.N, List.length_append, hb]; rfl
  try simp only [w_lt, gN_gA, hN21]
  refine ok_gq D21 (le_app (by decide +kernel)) (sum_app (by decide +kernel)) ?_
  refine ok_tg (D21.tag (q := (11, 20)) (tgl ho)) ?_
  have D22 := D21.aR (o := o) (k := 4) (lt_app hl) (b + 12)
  have D23 := D22.new2 (t := 26) (n := 3) (B + b + 41) (by rw [D22.N, List.length_append, hb]; rfl)
  refine ok_gq D23 (le_app (by decide +kernel)) (sum_app (by decide +kernel)) ?_
  refine ok_tg (D23.tag (q := (11, 20)) (tgl ho)) ?_
  have D24 := D23.aR (o := o) (k := 5) (lt_app hl) (b + 41)
  rw [show FUEL = 4996 + 1 + 1 + 1 + 1 from rfl, show (0 : Int32) = nI 0 from rfl]
  rw [pX12_init_l79, pX12_init_b79, if_neg (show ¬ 3 ≤ nI 0 from nI_ge (b := 3) (by decide) (by decide))]
  refine ok_tg (D24.tag (q := (11, 20)) (tgl ho)) ?_
  have pm0 : hR (sR (hZ (sR h21 (B + o) 4 (some (B + b + 12))) (B + b + 41)) (B + o) 5 (some (B + b + 41))) (B + o) 5 = some (B + b + 41) := (D24.ptr (lt_app hl)).trans (by simp [lkP, lk, Nat.add_assoc, hne, hne0])
  simp only [w_lt, gN_gA, pm0, hN21]
  have D25 := D24.new2 (t := 3) (n := 9) (B + b + 42) (by rw [D24.N, List.length_append, hb]; rfl)
  refine ok_gq D25 (le_app (by decide +kernel)) (sum_app (by decide +kernel)) ?_
  refine ok_tg (D25.tag (q := (3, 9)) (tgo hb 42 rfl)) ?_
  refine ok_bd2 (i_mach D25 (b + 43) (by rw [List.length_append, hb]; rfl) (b + 42) (tgo hb 42 rfl)) (fun g26 h26 D26 => ?_)
  replace D26 := D26.reT
  have hN26 : gN g26 = B + b + 71 := by rw [D26.N, List.length_append, hb]; rfl
  try simp only [w_lt, gN_gA, hN26]
  refine ok_gq D26 (le_app (by decide +kernel)) (sum_app (by decide +kernel)) ?_
  rw [w_nn]
  refine ok_tg (D26.tag (q := (26, 3)) (tgo hb 41 rfl)) ?_
  rw [show gL g26 (B + b + 41) = 3 from D26.len (q := (26, 3)) (tgo hb 41 rfl), w_ix (show 0 < 3 by decide) (by decide), show (nI 0).toNatClampNeg = 0 from by decide]
  refine ok_tg (D26.tag (q := (3, 9)) (tgo hb 42 rfl)) ?_
  have D27 := D26.aR (o := (b + 41)) (k := 0) (lt_apo hb (c := 41) (by decide)) (b + 42)
  simp only [w_lt, show nI 0 + 1 = nI 1 from by decide]
  rw [pX12_init_l79, pX12_init_b79, if_neg (show ¬ 3 ≤ nI 1 from nI_ge (b := 3) (by decide) (by decide))]
  refine ok_tg (D27.tag (q := (11, 20)) (tgl ho)) ?_
  have pm1 : hR (sR h26 (B + b + 41) 0 (some (B + b + 42))) (B + o) 5 = some (B + b + 41) := (D27.ptr (lt_app hl)).trans (by simp [lkP, lk, Nat.add_assoc, hne, hne0])
  simp only [w_lt, gN_gA, pm1, hN26]
  have D28 := D27.new2 (t := 3) (n := 9) (B + b + 71) (by rw [D27.N, List.length_append, hb]; rfl)
  refine ok_gq D28 (le_app (by decide +kernel)) (sum_app (by decide +kernel)) ?_
  refine ok_tg (D28.tag (q := (3, 9)) (tgo hb 71 rfl)) ?_
  refine ok_bd2 (i_mach D28 (b + 72) (by rw [List.length_append, hb]; rfl) (b + 71) (tgo hb 71 rfl)) (fun g29 h29 D29 => ?_)
  replace D29 := D29.reT
  have hN29 : gN g29 = B + b + 100 := by rw [D29.N, List.length_append, hb]; rfl
  try simp only [w_lt, gN_gA, hN29]
  refine ok_gq D29 (le_app (by decide +kernel)) (sum_app (by decide +kernel)) ?_
  rw [w_nn]
  refine ok_tg (D29.tag (q := (26, 3)) (tgo hb 41 rfl)) ?_
  rw [show gL g29 (B + b + 41) = 3 from D29.len (q := (26, 3)) (tgo hb 41 rfl), w_ix (show 1 < 3 by decide) (by decide), show (nI 1).toNatClampNeg = 1 from by decide]
  refine ok_tg (D29.tag (q := (3, 9)) (tgo hb 71 rfl)) ?_
  have D30 := D29.aR (o := (b + 41)) (k := 1) (lt_apo hb (c := 41) (by decide)) (b + 71)
  simp only [w_lt, show nI 1 + 1 = nI 2 from by decide]
  rw [pX12_init_l79, pX12_init_b79, if_neg (show ¬ 3 ≤ nI 2 from nI_ge (b := 3) (by decide) (by decide))]
  refine ok_tg (D30.tag (q := (11, 20)) (tgl ho)) ?_
  have pm2 : hR (sR h29 (B + b + 41) 1 (some (B + b + 71))) (B + o) 5 = some (B + b + 41) := (D30.ptr (lt_app hl)).trans (by simp [lkP, lk, Nat.add_assoc, hne, hne0])
  simp only [w_lt, gN_gA, pm2, hN29]
  have D31 := D30.new2 (t := 3) (n := 9) (B + b + 100) (by rw [D30.N, List.length_append, hb]; rfl)
  refine ok_gq D31 (le_app (by decide +kernel)) (sum_app (by decide +kernel)) ?_
  refine ok_tg (D31.tag (q := (3, 9)) (tgo hb 100 rfl)) ?_
  refine ok_bd2 (i_mach D31 (b + 101) (by rw [List.length_append, hb]; rfl) (b + 100) (tgo hb 100 rfl)) (fun g32 h32 D32 => ?_)
  replace D32 := D32.reT
  have hN32 : gN g32 = B + b + 129 := by rw [D32.N, List.length_append, hb]; rfl
  try simp only [w_lt, gN_gA, hN32]
  refine ok_gq D32 (le_app (by decide +kernel)) (sum_app (by decide +kernel)) ?_
  rw [w_nn]
  refine ok_tg (D32.tag (q := (26, 3)) (tgo hb 41 rfl)) ?_
  rw [show gL g32 (B + b + 41) = 3 from D32.len (q := (26, 3)) (tgo hb 41 rfl), w_ix (show 2 < 3 by decide) (by decide), show (nI 2).toNatClampNeg = 2 from by decide]
  refine ok_tg (D32.tag (q := (3, 9)) (tgo hb 100 rfl)) ?_
  have D33 := D32.aR (o := (b + 41)) (k := 2) (lt_apo hb (c := 41) (by decide)) (b + 100)
  simp only [w_lt, show nI 2 + 1 = nI 3 from by decide]
  rw [pX12_init_l79, pX12_init_b79, if_pos (show 3 ≤ nI 3 from nI_le (a := 3) (by decide) (by decide))]
  simp only [w_lt, gN_gA, hN32]
  have D34 := D33.new2 (t := 1) (n := 5) (B + b + 129) (by rw [D33.N, List.length_append, hb]; rfl)
  refine ok_gq D34 (le_app (by decide +kernel)) (sum_app (by decide +kernel)) ?_
  refine ok_tg (D34.tag (q := (1, 5)) (tgo hb 129 rfl)) ?_
  refine ok_bd2 (i_binary D34 (b + 130) (by rw [List.length_append, hb]; rfl) (b + 129) (tgo hb 129 rfl)) (fun g35 h35 D35 => ?_)
  replace D35 := D35.reT
  have hN35 : gN g35 = B + b + 131 := by rw [D35.N, List.length_append, hb]; rfl
  try simp only [w_lt, gN_gA, hN35]
  refine ok_gq D35 (le_app (by decide +kernel)) (sum_app (by decide +kernel)) ?_
  refine ok_tg (D35.tag (q := (11, 20)) (tgl ho)) ?_
  have D36 := D35.aR (o := o) (k := 14) (lt_app hl) (b + 129)
  have D37 := D36.new2 (t := 8) (n := 11) (B + b + 131) (by rw [D36.N, List.length_append, hb]; rfl)
  refine ok_gq D37 (le_app (by decide +kernel)) (sum_app (by decide +kernel)) ?_
  refine ok_tg (D37.tag (q := (11, 20)) (tgl ho)) ?_
  have pb : hR (hZ (sR h35 (B + o) 14 (some (B + b + 129))) (B + b + 131)) (B + o) 14 = some (B + b + 129) := (D37.ptr (lt_app hl)).trans (by simp [lkP, lk, Nat.add_assoc, hne, hne0])
  rw [pb]
  refine ok_tg (D37.tag (q := (8, 11)) (tgo hb 131 rfl)) ?_
  rw [w_nn]
  refine ok_bd2 (i_runner (b + 129) D37 (b + 132) (by rw [List.length_append, hb]; rfl) (b + 131) (tgo hb 131 rfl)) (fun g38 h38 D38 => ?_)
  replace D38 := D38.reT
  have hN38 : gN g38 = B + b + 137 := by rw [D38.N, List.length_append, hb]; rfl
  try simp only [w_lt, gN_gA, hN38]
  refine ok_gq D38 (le_app (by decide +kernel)) (sum_app (by decide +kernel)) ?_
  refine ok_tg (D38.tag (q := (11, 20)) (tgl ho)) ?_
  have D39 := D38.aR (o := o) (k := 7) (lt_app hl) (b + 131)
  have D40 := D39.new2 (t := 9) (n := 17) (B + b + 137) (by rw [D39.N, List.length_append, hb]; rfl)
  refine ok_gq D40 (le_app (by decide +kernel)) (sum_app (by decide +kernel)) ?_
  refine ok_tg (D40.tag (q := (9, 17)) (tgo hb 137 rfl)) ?_
  refine ok_bd2 (i_times eL D40 (b + 138) (by rw [List.length_append, hb]; rfl) (b + 137) (tgo hb 137 rfl)) (fun g41 h41 D41 => ?_)
  replace D41 := D41.reT
  have hN41 : gN g41 = B + b + 144 := by rw [D41.N, List.length_append, hb]; rfl
  try simp only [w_lt, gN_gA, hN41]
  refine ok_gq D41 (le_app (by decide +kernel)) (sum_app (by decide +kernel)) ?_
  refine ok_tg (D41.tag (q := (11, 20)) (tgl ho)) ?_
  have D42 := D41.aR (o := o) (k := 8) (lt_app hl) (b + 137)
  have D43 := D42.new2 (t := 3) (n := 9) (B + b + 144) (by rw [D42.N, List.length_append, hb]; rfl)
  refine ok_gq D43 (le_app (by decide +kernel)) (sum_app (by decide +kernel)) ?_
  refine ok_tg (D43.tag (q := (3, 9)) (tgo hb 144 rfl)) ?_
  refine ok_bd2 (i_mach D43 (b + 145) (by rw [List.length_append, hb]; rfl) (b + 144) (tgo hb 144 rfl)) (fun g44 h44 D44 => ?_)
  replace D44 := D44.reT
  have hN44 : gN g44 = B + b + 173 := by rw [D44.N, List.length_append, hb]; rfl
  try simp only [w_lt, gN_gA, hN44]
  refine ok_gq D44 (le_app (by decide +kernel)) (sum_app (by decide +kernel)) ?_
  refine ok_tg (D44.tag (q := (11, 20)) (tgl ho)) ?_
  have D45 := D44.aR (o := o) (k := 11) (lt_app hl) (b + 144)
  have D46 := D45.new2 (t := 6) (n := 2) (B + b + 173) (by rw [D45.N, List.length_append, hb]; rfl)
  refine ok_gq D46 (le_app (by decide +kernel)) (sum_app (by decide +kernel)) ?_
  refine ok_tg (D46.tag (q := (6, 2)) (tgo hb 173 rfl)) ?_
  refine ok_bd2 (i_prog D46 (b + 174) (by rw [List.length_append, hb]; rfl) (b + 173) (tgo hb 173 rfl)) (fun g47 h47 D47 => ?_)
  replace D47 := D47.reT
  have hN47 : gN g47 = B + b + 175 := by rw [D47.N, List.length_append, hb]; rfl
  try simp only [w_lt, gN_gA, hN47]
  refine ok_gq D47 (le_app (by decide +kernel)) (sum_app (by decide +kernel)) ?_
  refine ok_tg (D47.tag (q := (11, 20)) (tgl ho)) ?_
  have D48 := D47.aR (o := o) (k := 12) (lt_app hl) (b + 173)
  have D49 := D48.new2 (t := 9) (n := 17) (B + b + 175) (by rw [D48.N, List.length_append, hb]; rfl)
  refine ok_gq D49 (le_app (by decide +kernel)) (sum_app (by decide +kernel)) ?_
  refine ok_tg (D49.tag (q := (9, 17)) (tgo hb 175 rfl)) ?_
  refine ok_bd2 (i_times eL D49 (b + 176) (by rw [List.length_append, hb]; rfl) (b + 175) (tgo hb 175 rfl)) (fun g50 h50 D50 => ?_)
  replace D50 := D50.reT
  have hN50 : gN g50 = B + b + 182 := by rw [D50.N, List.length_append, hb]; rfl
  try simp only [w_lt, gN_gA, hN50]
  refine ok_gq D50 (le_app (by decide +kernel)) (sum_app (by decide +kernel)) ?_
  refine ok_tg (D50.tag (q := (11, 20)) (tgl ho)) ?_
  have D51 := D50.aR (o := o) (k := 13) (lt_app hl) (b + 175)
  have D52 := D51.new2 (t := 4) (n := 2) (B + b + 182) (by rw [D51.N, List.length_append, hb]; rfl)
  refine ok_gq D52 (le_app (by decide +kernel)) (sum_app (by decide +kernel)) ?_
  refine ok_tg (D52.tag (q := (4, 2)) (tgo hb 182 rfl)) ?_
  refine ok_bd2 (i_num D52 (b + 183) (by rw [List.length_append, hb]; rfl) (b + 182) (tgo hb 182 rfl)) (fun g53 h53 D53 => ?_)
  have hN53 : gN g53 = B + b + 183 := by rw [D53.N, List.length_append, hb]; rfl
  try simp only [w_lt, gN_gA, hN53]
  refine ok_gq D53 (le_app (by decide +kernel)) (sum_app (by decide +kernel)) ?_
  refine ok_tg (D53.tag (q := (11, 20)) (tgl ho)) ?_
  have D54 := D53.aR (o := o) (k := 15) (lt_app hl) (b + 182)
  have D55 := D54.new2 (t := 4) (n := 2) (B + b + 183) (by rw [D54.N, List.length_append, hb]; rfl)
  refine ok_gq D55 (le_app (by decide +kernel)) (sum_app (by decide +kernel)) ?_
  refine ok_tg (D55.tag (q := (4, 2)) (tgo hb 183 rfl)) ?_
  refine ok_bd2 (i_num D55 (b + 184) (by rw [List.length_append, hb]; rfl) (b + 183) (tgo hb 183 rfl)) (fun g56 h56 D56 => ?_)
  have hN56 : gN g56 = B + b + 184 := by rw [D56.N, List.length_append, hb]; rfl
  try simp only [w_lt, gN_gA, hN56]
  refine ok_gq D56 (le_app (by decide +kernel)) (sum_app (by decide +kernel)) ?_
  refine ok_tg (D56.tag (q := (11, 20)) (tgl ho)) ?_
  have D57 := D56.aR (o := o) (k := 16) (lt_app hl) (b + 183)
  have D58 := D57.new2 (t := 4) (n := 2) (B + b + 184) (by rw [D57.N, List.length_append, hb]; rfl)
  refine ok_gq D58 (le_app (by decide +kernel)) (sum_app (by decide +kernel)) ?_
  refine ok_tg (D58.tag (q := (4, 2)) (tgo hb 184 rfl)) ?_
  refine ok_bd2 (i_num D58 (b + 185) (by rw [List.length_append, hb]; rfl) (b + 184) (tgo hb 184 rfl)) (fun g59 h59 D59 => ?_)
  have hN59 : gN g59 = B + b + 185 := by rw [D59.N, List.length_append, hb]; rfl
  try simp only [w_lt, gN_gA, hN59]
  refine ok_gq D59 (le_app (by decide +kernel)) (sum_app (by decide +kernel)) ?_
  refine ok_tg (D59.tag (q := (11, 20)) (tgl ho)) ?_
  have D60 := D59.aR (o := o) (k := 17) (lt_app hl) (b + 184)
  have D61 := D60.new2 (t := 4) (n := 2) (B + b + 185) (by rw [D60.N, List.length_append, hb]; rfl)
  refine ok_gq D61 (le_app (by decide +kernel)) (sum_app (by decide +kernel)) ?_
  refine ok_tg (D61.tag (q := (4, 2)) (tgo hb 185 rfl)) ?_
  refine ok_bd2 (i_num D61 (b + 186) (by rw [List.length_append, hb]; rfl) (b + 185) (tgo hb 185 rfl)) (fun g62 h62 D62 => ?_)
  have hN62 : gN g62 = B + b + 186 := by rw [D62.N, List.length_append, hb]; rfl
  try simp only [w_lt, gN_gA, hN62]
  refine ok_gq D62 (le_app (by decide +kernel)) (sum_app (by decide +kernel)) ?_
  refine ok_tg (D62.tag (q := (11, 20)) (tgl ho)) ?_
  have D63 := D62.aR (o := o) (k := 18) (lt_app hl) (b + 185)
  exact ok_ret D63
set_option maxRecDepth 100000 in
set_option maxHeartbeats 20000000 in
theorem i_model {B : Nat} {T : List (Nat × Nat)} {I : List (Nat × Nat × Int32)} {Q : List (Nat × Nat × UInt64)} {P A : List (Nat × Nat × Nat)} {g : MT} {h : CT} (H : DI B T I Q P A g h) (b : Nat) (hb : T.length = b) (o : Nat) (ho : T[o]? = some (12, 52)) : OkI B (T ++ [(20, 4), (20, 4), (21, 240), (23, 900), (20, 1476), (22, 984), (20, 96), (20, 96), (20, 4), (20, 16), (20, 30), (20, 30), (22, 16), (20, 6), (20, 30), (20, 30), (20, 16)]) (((b + 4), 2, 4) :: ((b + 4), 1, 8) :: ((b + 4), 0, 16) :: ((b + 1), 3, (-1)) :: ((b + 1), 2, (-1)) :: ((b + 1), 1, (-1)) :: ((b + 1), 0, (-1)) :: (o, 11, (-1)) :: (o, 10, (-1)) :: I) (Q) ((o, 50, (b + 16)) :: (o, 47, (b + 15)) :: (o, 46, (b + 14)) :: (o, 45, (b + 13)) :: (o, 43, (b + 12)) :: (o, 28, (b + 11)) :: (o, 27, (b + 10)) :: (o, 26, (b + 9)) :: (o, 25, (b + 8)) :: (o, 24, (b + 7)) :: (o, 23, (b + 6)) :: (o, 20, (b + 5)) :: (o, 19, (b + 4)) :: (o, 7, (b + 3)) :: (o, 6, (b + 2)) :: (o, 5, (b + 1)) :: (o, 4, b) :: P) (A) (pX13_init g h (B + o)) := by
  have hl : o < T.length := (List.getElem?_eq_some_iff.mp ho).1
  have hN : gN g = B + b := by rw [H.N, hb]
  have hne : ∀ c : Nat, (o = b + c) = False := fun c => by apply eq_false; omega
  have hne0 : (o = b) = False := by apply eq_false; omega
  have hno : ∀ c : Nat, (b + c = o) = False := fun c => by apply eq_false; omega
  unfold pX13_init
  try simp only [w_lt, gN_gA, hN]
  refine ok_gq H (le_app0) (sum_app0) ?_
  have D1 := H.new (t := 20) (n := 4) (B + b) (by rw [H.N, hb])
  refine ok_gq D1 (le_app (by decide +kernel)) (sum_app (by decide +kernel)) ?_
  refine ok_tg (D1.tag (q := (12, 52)) (tgl ho)) ?_
  have D2 := D1.aR (o := o) (k := 4) (lt_app hl) b
  have D3 := D2.new2 (t := 20) (n := 4) (B + b + 1) (by rw [D2.N, List.length_append, hb]; rfl)
  refine ok_gq D3 (le_app (by decide +kernel)) (sum_app (by decide +kernel)) ?_
  refine ok_tg (D3.tag (q := (12, 52)) (tgl ho)) ?_
  have D4 := D3.aR (o := o) (k := 5) (lt_app hl) (b + 1)
  have D5 := D4.new2 (t := 21) (n := 240) (B + b + 2) (by rw [D4.N, List.length_append, hb]; rfl)
  refine ok_gq D5 (le_app (by decide +kernel)) (sum_app (by decide +kernel)) ?_
  refine ok_tg (D5.tag (q := (12, 52)) (tgl ho)) ?_
  have D6 := D5.aR (o := o) (k := 6) (lt_app hl) (b + 2)
  have D7 := D6.new2 (t := 23) (n := 900) (B + b + 3) (by rw [D6.N, List.length_append, hb]; rfl)
  refine ok_gq D7 (le_app (by decide +kernel)) (sum_app (by decide +kernel)) ?_
  refine ok_tg (D7.tag (q := (12, 52)) (tgl ho)) ?_
  have D8 := D7.aR (o := o) (k := 7) (lt_app hl) (b + 3)
  have D9 := D8.aI (o := o) (k := 10) (lt_app hl) (-1)
  have D10 := D9.aI (o := o) (k := 11) (lt_app hl) (-1)
  have D11 := D10.new2 (t := 20) (n := 1476) (B + b + 4) (by rw [D10.N, List.length_append, hb]; rfl)
  refine ok_gq D11 (le_app (by decide +kernel)) (sum_app (by decide +kernel)) ?_
  refine ok_tg (D11.tag (q := (12, 52)) (tgl ho)) ?_
  have D12 := D11.aR (o := o) (k := 19) (lt_app hl) (b + 4)
  have D13 := D12.new2 (t := 22) (n := 984) (B + b + 5) (by rw [D12.N, List.length_append, hb]; rfl)
  refine ok_gq D13 (le_app (by decide +kernel)) (sum_app (by decide +kernel)) ?_
  refine ok_tg (D13.tag (q := (12, 52)) (tgl ho)) ?_
  have D14 := D13.aR (o := o) (k := 20) (lt_app hl) (b + 5)
  have D15 := D14.new2 (t := 20) (n := 96) (B + b + 6) (by rw [D14.N, List.length_append, hb]; rfl)
  refine ok_gq D15 (le_app (by decide +kernel)) (sum_app (by decide +kernel)) ?_
  refine ok_tg (D15.tag (q := (12, 52)) (tgl ho)) ?_
  have D16 := D15.aR (o := o) (k := 23) (lt_app hl) (b + 6)
  have D17 := D16.new2 (t := 20) (n := 96) (B + b + 7) (by rw [D16.N, List.length_append, hb]; rfl)
  refine ok_gq D17 (le_app (by decide +kernel)) (sum_app (by decide +kernel)) ?_
  refine ok_tg (D17.tag (q := (12, 52)) (tgl ho)) ?_
  have D18 := D17.aR (o := o) (k := 24) (lt_app hl) (b + 7)
  have D19 := D18.new2 (t := 20) (n := 4) (B + b + 8) (by rw [D18.N, List.length_append, hb]; rfl)
  refine ok_gq D19 (le_app (by decide +kernel)) (sum_app (by decide +kernel)) ?_
  refine ok_tg (D19.tag (q := (12, 52)) (tgl ho)) ?_
  have D20 := D19.aR (o := o) (k := 25) (lt_app hl) (b + 8)
  have D21 := D20.new2 (t := 20) (n := 16) (B + b + 9) (by rw [D20.N, List.length_append, hb]; rfl)
  refine ok_gq D21 (le_app (by decide +kernel)) (sum_app (by decide +kernel)) ?_
  refine ok_tg (D21.tag (q := (12, 52)) (tgl ho)) ?_
  have D22 := D21.aR (o := o) (k := 26) (lt_app hl) (b + 9)
  have D23 := D22.new2 (t := 20) (n := 30) (B + b + 10) (by rw [D22.N, List.length_append, hb]; rfl)
  refine ok_gq D23 (le_app (by decide +kernel)) (sum_app (by decide +kernel)) ?_
  refine ok_tg (D23.tag (q := (12, 52)) (tgl ho)) ?_
  have D24 := D23.aR (o := o) (k := 27) (lt_app hl) (b + 10)
  have D25 := D24.new2 (t := 20) (n := 30) (B + b + 11) (by rw [D24.N, List.length_append, hb]; rfl)
  refine ok_gq D25 (le_app (by decide +kernel)) (sum_app (by decide +kernel)) ?_
  refine ok_tg (D25.tag (q := (12, 52)) (tgl ho)) ?_
  have D26 := D25.aR (o := o) (k := 28) (lt_app hl) (b + 11)
  have D27 := D26.new2 (t := 22) (n := 16) (B + b + 12) (by rw [D26.N, List.length_append, hb]; rfl)
  refine ok_gq D27 (le_app (by decide +kernel)) (sum_app (by decide +kernel)) ?_
  refine ok_tg (D27.tag (q := (12, 52)) (tgl ho)) ?_
  have D28 := D27.aR (o := o) (k := 43) (lt_app hl) (b + 12)
  have D29 := D28.new2 (t := 20) (n := 6) (B + b + 13) (by rw [D28.N, List.length_append, hb]; rfl)
  refine ok_gq D29 (le_app (by decide +kernel)) (sum_app (by decide +kernel)) ?_
  refine ok_tg (D29.tag (q := (12, 52)) (tgl ho)) ?_
  have D30 := D29.aR (o := o) (k := 45) (lt_app hl) (b + 13)
  have D31 := D30.new2 (t := 20) (n := 30) (B + b + 14) (by rw [D30.N, List.length_append, hb]; rfl)
  refine ok_gq D31 (le_app (by decide +kernel)) (sum_app (by decide +kernel)) ?_
  refine ok_tg (D31.tag (q := (12, 52)) (tgl ho)) ?_
  have D32 := D31.aR (o := o) (k := 46) (lt_app hl) (b + 14)
  have D33 := D32.new2 (t := 20) (n := 30) (B + b + 15) (by rw [D32.N, List.length_append, hb]; rfl)
  refine ok_gq D33 (le_app (by decide +kernel)) (sum_app (by decide +kernel)) ?_
  refine ok_tg (D33.tag (q := (12, 52)) (tgl ho)) ?_
  have D34 := D33.aR (o := o) (k := 47) (lt_app hl) (b + 15)
  have D35 := D34.new2 (t := 20) (n := 16) (B + b + 16) (by rw [D34.N, List.length_append, hb]; rfl)
  refine ok_gq D35 (le_app (by decide +kernel)) (sum_app (by decide +kernel)) ?_
  refine ok_tg (D35.tag (q := (12, 52)) (tgl ho)) ?_
  have D36 := D35.aR (o := o) (k := 50) (lt_app hl) (b + 16)
  rw [show FUEL = 4995 + 1 + 1 + 1 + 1 + 1 from rfl, show (0 : Int32) = nI 0 from rfl]
  rw [pX13_init_l153, pX13_init_b153, if_neg (show ¬ 4 ≤ nI 0 from nI_ge (b := 4) (by decide) (by decide))]
  refine ok_tg (D36.tag (q := (12, 52)) (tgl ho)) ?_
  have pt0 : hR (sR (hZ (sR (hZ (sR (hZ (sR (hZ (sR (hZ (sR (hZ (sR (hZ (sR (hZ (sR (hZ (sR (hZ (sR (hZ (sR (hZ (sR (hZ (sI (sI (sR (hZ (sR (hZ (sR (hZ (sR (hZ h (B + b)) (B + o) 4 (some (B + b))) (B + b + 1)) (B + o) 5 (some (B + b + 1))) (B + b + 2)) (B + o) 6 (some (B + b + 2))) (B + b + 3)) (B + o) 7 (some (B + b + 3))) (B + o) 10 (-1)) (B + o) 11 (-1)) (B + b + 4)) (B + o) 19 (some (B + b + 4))) (B + b + 5)) (B + o) 20 (some (B + b + 5))) (B + b + 6)) (B + o) 23 (some (B + b + 6))) (B + b + 7)) (B + o) 24 (some (B + b + 7))) (B + b + 8)) (B + o) 25 (some (B + b + 8))) (B + b + 9)) (B + o) 26 (some (B + b + 9))) (B + b + 10)) (B + o) 27 (some (B + b + 10))) (B + b + 11)) (B + o) 28 (some (B + b + 11))) (B + b + 12)) (B + o) 43 (some (B + b + 12))) (B + b + 13)) (B + o) 45 (some (B + b + 13))) (B + b + 14)) (B + o) 46 (some (B + b + 14))) (B + b + 15)) (B + o) 47 (some (B + b + 15))) (B + b + 16)) (B + o) 50 (some (B + b + 16))) (B + o) 5 = some (B + b + 1) := (D36.ptr (lt_app hl)).trans (by simp [lkP, lk, Nat.add_assoc, hne, hne0])
  simp only [w_lt, pt0, w_nn]
  refine ok_tg (D36.tag (q := (20, 4)) (tgo hb 1 rfl)) ?_
  rw [show gL (gA (gA (gA (gA (gA (gA (gA (gA (gA (gA (gA (gA (gA (gA (gA (gA (gA g 20 4) 20 4) 21 240) 23 900) 20 1476) 22 984) 20 96) 20 96) 20 4) 20 16) 20 30) 20 30) 22 16) 20 6) 20 30) 20 30) 20 16) (B + b + 1) = 4 from D36.len (q := (20, 4)) (tgo hb 1 rfl), w_ix (show 0 < 4 by decide) (by decide), show (nI 0).toNatClampNeg = 0 from by decide]
  have D37 := D36.aI (o := (b + 1)) (k := 0) (lt_apo hb (c := 1) (by decide)) (-1)
  simp only [show nI 0 + 1 = nI 1 from by decide]
  rw [pX13_init_l153, pX13_init_b153, if_neg (show ¬ 4 ≤ nI 1 from nI_ge (b := 4) (by decide) (by decide))]
  refine ok_tg (D37.tag (q := (12, 52)) (tgl ho)) ?_
  have pt1 : hR (sI (sR (hZ (sR (hZ (sR (hZ (sR (hZ (sR (hZ (sR (hZ (sR (hZ (sR (hZ (sR (hZ (sR (hZ (sR (hZ (sR (hZ (sR (hZ (sI (sI (sR (hZ (sR (hZ (sR (hZ (sR (hZ h (B + b)) (B + o) 4 (some (B + b))) (B + b + 1)) (B + o) 5 (some (B + b + 1))) (B + b + 2)) (B + o) 6 (some (B + b + 2))) (B + b + 3)) (B + o) 7 (some (B + b + 3))) (B + o) 10 (-1)) (B + o) 11 (-1)) (B + b + 4)) (B + o) 19 (some (B + b + 4))) (B + b + 5)) (B + o) 20 (some (B + b + 5))) (B + b + 6)) (B + o) 23 (some (B + b + 6))) (B + b + 7)) (B + o) 24 (some (B + b + 7))) (B + b + 8)) (B + o) 25 (some (B + b + 8))) (B + b + 9)) (B + o) 26 (some (B + b + 9))) (B + b + 10)) (B + o) 27 (some (B + b + 10))) (B + b + 11)) (B + o) 28 (some (B + b + 11))) (B + b + 12)) (B + o) 43 (some (B + b + 12))) (B + b + 13)) (B + o) 45 (some (B + b + 13))) (B + b + 14)) (B + o) 46 (some (B + b + 14))) (B + b + 15)) (B + o) 47 (some (B + b + 15))) (B + b + 16)) (B + o) 50 (some (B + b + 16))) (B + b + 1) 0 (-1)) (B + o) 5 = some (B + b + 1) := (D37.ptr (lt_app hl)).trans (by simp [lkP, lk, Nat.add_assoc, hne, hne0])
  simp only [w_lt, pt1, w_nn]
  refine ok_tg (D37.tag (q := (20, 4)) (tgo hb 1 rfl)) ?_
  rw [show gL (gA (gA (gA (gA (gA (gA (gA (gA (gA (gA (gA (gA (gA (gA (gA (gA (gA g 20 4) 20 4) 21 240) 23 900) 20 1476) 22 984) 20 96) 20 96) 20 4) 20 16) 20 30) 20 30) 22 16) 20 6) 20 30) 20 30) 20 16) (B + b + 1) = 4 from D37.len (q := (20, 4)) (tgo hb 1 rfl), w_ix (show 1 < 4 by decide) (by decide), show (nI 1).toNatClampNeg = 1 from by decide]
  have D38 := D37.aI (o := (b + 1)) (k := 1) (lt_apo hb (c := 1) (by decide)) (-1)
  simp only [show nI 1 + 1 = nI 2 from by decide]
  rw [pX13_init_l153, pX13_init_b153, if_neg (show ¬ 4 ≤ nI 2 from nI_ge (b := 4) (by decide) (by decide))]
  refine ok_tg (D38.tag (q := (12, 52)) (tgl ho)) ?_
  have pt2 : hR (sI (sI (sR (hZ (sR (hZ (sR (hZ (sR (hZ (sR (hZ (sR (hZ (sR (hZ (sR (hZ (sR (hZ (sR (hZ (sR (hZ (sR (hZ (sR (hZ (sI (sI (sR (hZ (sR (hZ (sR (hZ (sR (hZ h (B + b)) (B + o) 4 (some (B + b))) (B + b + 1)) (B + o) 5 (some (B + b + 1))) (B + b + 2)) (B + o) 6 (some (B + b + 2))) (B + b + 3)) (B + o) 7 (some (B + b + 3))) (B + o) 10 (-1)) (B + o) 11 (-1)) (B + b + 4)) (B + o) 19 (some (B + b + 4))) (B + b + 5)) (B + o) 20 (some (B + b + 5))) (B + b + 6)) (B + o) 23 (some (B + b + 6))) (B + b + 7)) (B + o) 24 (some (B + b + 7))) (B + b + 8)) (B + o) 25 (some (B + b + 8))) (B + b + 9)) (B + o) 26 (some (B + b + 9))) (B + b + 10)) (B + o) 27 (some (B + b + 10))) (B + b + 11)) (B + o) 28 (some (B + b + 11))) (B + b + 12)) (B + o) 43 (some (B + b + 12))) (B + b + 13)) (B + o) 45 (some (B + b + 13))) (B + b + 14)) (B + o) 46 (some (B + b + 14))) (B + b + 15)) (B + o) 47 (some (B + b + 15))) (B + b + 16)) (B + o) 50 (some (B + b + 16))) (B + b + 1) 0 (-1)) (B + b + 1) 1 (-1)) (B + o) 5 = some (B + b + 1) := (D38.ptr (lt_app hl)).trans (by simp [lkP, lk, Nat.add_assoc, hne, hne0])
  simp only [w_lt, pt2, w_nn]
  refine ok_tg (D38.tag (q := (20, 4)) (tgo hb 1 rfl)) ?_
  rw [show gL (gA (gA (gA (gA (gA (gA (gA (gA (gA (gA (gA (gA (gA (gA (gA (gA (gA g 20 4) 20 4) 21 240) 23 900) 20 1476) 22 984) 20 96) 20 96) 20 4) 20 16) 20 30) 20 30) 22 16) 20 6) 20 30) 20 30) 20 16) (B + b + 1) = 4 from D38.len (q := (20, 4)) (tgo hb 1 rfl), w_ix (show 2 < 4 by decide) (by decide), show (nI 2).toNatClampNeg = 2 from by decide]
  have D39 := D38.aI (o := (b + 1)) (k := 2) (lt_apo hb (c := 1) (by decide)) (-1)
  simp only [show nI 2 + 1 = nI 3 from by decide]
  rw [pX13_init_l153, pX13_init_b153, if_neg (show ¬ 4 ≤ nI 3 from nI_ge (b := 4) (by decide) (by decide))]
  refine ok_tg (D39.tag (q := (12, 52)) (tgl ho)) ?_
  have pt3 : hR (sI (sI (sI (sR (hZ (sR (hZ (sR (hZ (sR (hZ (sR (hZ (sR (hZ (sR (hZ (sR (hZ (sR (hZ (sR (hZ (sR (hZ (sR (hZ (sR (hZ (sI (sI (sR (hZ (sR (hZ (sR (hZ (sR (hZ h (B + b)) (B + o) 4 (some (B + b))) (B + b + 1)) (B + o) 5 (some (B + b + 1))) (B + b + 2)) (B + o) 6 (some (B + b + 2))) (B + b + 3)) (B + o) 7 (some (B + b + 3))) (B + o) 10 (-1)) (B + o) 11 (-1)) (B + b + 4)) (B + o) 19 (some (B + b + 4))) (B + b + 5)) (B + o) 20 (some (B + b + 5))) (B + b + 6)) (B + o) 23 (some (B + b + 6))) (B + b + 7)) (B + o) 24 (some (B + b + 7))) (B + b + 8)) (B + o) 25 (some (B + b + 8))) (B + b + 9)) (B + o) 26 (some (B + b + 9))) (B + b + 10)) (B + o) 27 (some (B + b + 10))) (B + b + 11)) (B + o) 28 (some (B + b + 11))) (B + b + 12)) (B + o) 43 (some (B + b + 12))) (B + b + 13)) (B + o) 45 (some (B + b + 13))) (B + b + 14)) (B + o) 46 (some (B + b + 14))) (B + b + 15)) (B + o) 47 (some (B + b + 15))) (B + b + 16)) (B + o) 50 (some (B + b + 16))) (B + b + 1) 0 (-1)) (B + b + 1) 1 (-1)) (B + b + 1) 2 (-1)) (B + o) 5 = some (B + b + 1) := (D39.ptr (lt_app hl)).trans (by simp [lkP, lk, Nat.add_assoc, hne, hne0])
  simp only [w_lt, pt3, w_nn]
  refine ok_tg (D39.tag (q := (20, 4)) (tgo hb 1 rfl)) ?_
  rw [show gL (gA (gA (gA (gA (gA (gA (gA (gA (gA (gA (gA (gA (gA (gA (gA (gA (gA g 20 4) 20 4) 21 240) 23 900) 20 1476) 22 984) 20 96) 20 96) 20 4) 20 16) 20 30) 20 30) 22 16) 20 6) 20 30) 20 30) 20 16) (B + b + 1) = 4 from D39.len (q := (20, 4)) (tgo hb 1 rfl), w_ix (show 3 < 4 by decide) (by decide), show (nI 3).toNatClampNeg = 3 from by decide]
  have D40 := D39.aI (o := (b + 1)) (k := 3) (lt_apo hb (c := 1) (by decide)) (-1)
  simp only [show nI 3 + 1 = nI 4 from by decide]
  rw [pX13_init_l153, pX13_init_b153, if_pos (show 4 ≤ nI 4 from nI_le (a := 4) (by decide) (by decide))]
  refine ok_tg (D40.tag (q := (12, 52)) (tgl ho)) ?_
  have pq0 : hR (sI (sI (sI (sI (sR (hZ (sR (hZ (sR (hZ (sR (hZ (sR (hZ (sR (hZ (sR (hZ (sR (hZ (sR (hZ (sR (hZ (sR (hZ (sR (hZ (sR (hZ (sI (sI (sR (hZ (sR (hZ (sR (hZ (sR (hZ h (B + b)) (B + o) 4 (some (B + b))) (B + b + 1)) (B + o) 5 (some (B + b + 1))) (B + b + 2)) (B + o) 6 (some (B + b + 2))) (B + b + 3)) (B + o) 7 (some (B + b + 3))) (B + o) 10 (-1)) (B + o) 11 (-1)) (B + b + 4)) (B + o) 19 (some (B + b + 4))) (B + b + 5)) (B + o) 20 (some (B + b + 5))) (B + b + 6)) (B + o) 23 (some (B + b + 6))) (B + b + 7)) (B + o) 24 (some (B + b + 7))) (B + b + 8)) (B + o) 25 (some (B + b + 8))) (B + b + 9)) (B + o) 26 (some (B + b + 9))) (B + b + 10)) (B + o) 27 (some (B + b + 10))) (B + b + 11)) (B + o) 28 (some (B + b + 11))) (B + b + 12)) (B + o) 43 (some (B + b + 12))) (B + b + 13)) (B + o) 45 (some (B + b + 13))) (B + b + 14)) (B + o) 46 (some (B + b + 14))) (B + b + 15)) (B + o) 47 (some (B + b + 15))) (B + b + 16)) (B + o) 50 (some (B + b + 16))) (B + b + 1) 0 (-1)) (B + b + 1) 1 (-1)) (B + b + 1) 2 (-1)) (B + b + 1) 3 (-1)) (B + o) 19 = some (B + b + 4) := (D40.ptr (lt_app hl)).trans (by simp [lkP, lk, Nat.add_assoc, hne, hne0])
  simp only [w_lt, pq0, w_nn]
  refine ok_tg (D40.tag (q := (20, 1476)) (tgo hb 4 rfl)) ?_
  rw [show gL (gA (gA (gA (gA (gA (gA (gA (gA (gA (gA (gA (gA (gA (gA (gA (gA (gA g 20 4) 20 4) 21 240) 23 900) 20 1476) 22 984) 20 96) 20 96) 20 4) 20 16) 20 30) 20 30) 22 16) 20 6) 20 30) 20 30) 20 16) (B + b + 4) = 1476 from D40.len (q := (20, 1476)) (tgo hb 4 rfl), w_ixl (i := 0) (by decide) (by decide), cl_l 0 (by decide)]
  have D41 := D40.aI (o := (b + 4)) (k := 0) (lt_apo hb (c := 4) (by decide)) 16
  have pq1 : hR (sI (sI (sI (sI (sI (sR (hZ (sR (hZ (sR (hZ (sR (hZ (sR (hZ (sR (hZ (sR (hZ (sR (hZ (sR (hZ (sR (hZ (sR (hZ (sR (hZ (sR (hZ (sI (sI (sR (hZ (sR (hZ (sR (hZ (sR (hZ h (B + b)) (B + o) 4 (some (B + b))) (B + b + 1)) (B + o) 5 (some (B + b + 1))) (B + b + 2)) (B + o) 6 (some (B + b + 2))) (B + b + 3)) (B + o) 7 (some (B + b + 3))) (B + o) 10 (-1)) (B + o) 11 (-1)) (B + b + 4)) (B + o) 19 (some (B + b + 4))) (B + b + 5)) (B + o) 20 (some (B + b + 5))) (B + b + 6)) (B + o) 23 (some (B + b + 6))) (B + b + 7)) (B + o) 24 (some (B + b + 7))) (B + b + 8)) (B + o) 25 (some (B + b + 8))) (B + b + 9)) (B + o) 26 (some (B + b + 9))) (B + b + 10)) (B + o) 27 (some (B + b + 10))) (B + b + 11)) (B + o) 28 (some (B + b + 11))) (B + b + 12)) (B + o) 43 (some (B + b + 12))) (B + b + 13)) (B + o) 45 (some (B + b + 13))) (B + b + 14)) (B + o) 46 (some (B + b + 14))) (B + b + 15)) (B + o) 47 (some (B + b + 15))) (B + b + 16)) (B + o) 50 (some (B + b + 16))) (B + b + 1) 0 (-1)) (B + b + 1) 1 (-1)) (B + b + 1) 2 (-1)) (B + b + 1) 3 (-1)) (B + b + 4) 0 16) (B + o) 19 = some (B + b + 4) := (D41.ptr (lt_app hl)).trans (by simp [lkP, lk, Nat.add_assoc, hne, hne0])
  simp only [w_lt, pq1, w_nn]
  refine ok_tg (D41.tag (q := (20, 1476)) (tgo hb 4 rfl)) ?_
  rw [show gL (gA (gA (gA (gA (gA (gA (gA (gA (gA (gA (gA (gA (gA (gA (gA (gA (gA g 20 4) 20 4) 21 240) 23 900) 20 1476) 22 984) 20 96) 20 96) 20 4) 20 16) 20 30) 20 30) 22 16) 20 6) 20 30) 20 30) 20 16) (B + b + 4) = 1476 from D41.len (q := (20, 1476)) (tgo hb 4 rfl), w_ixl (i := 1) (by decide) (by decide), cl_l 1 (by decide)]
  have D42 := D41.aI (o := (b + 4)) (k := 1) (lt_apo hb (c := 4) (by decide)) 8
  have pq2 : hR (sI (sI (sI (sI (sI (sI (sR (hZ (sR (hZ (sR (hZ (sR (hZ (sR (hZ (sR (hZ (sR (hZ (sR (hZ (sR (hZ (sR (hZ (sR (hZ (sR (hZ (sR (hZ (sI (sI (sR (hZ (sR (hZ (sR (hZ (sR (hZ h (B + b)) (B + o) 4 (some (B + b))) (B + b + 1)) (B + o) 5 (some (B + b + 1))) (B + b + 2)) (B + o) 6 (some (B + b + 2))) (B + b + 3)) (B + o) 7 (some (B + b + 3))) (B + o) 10 (-1)) (B + o) 11 (-1)) (B + b + 4)) (B + o) 19 (some (B + b + 4))) (B + b + 5)) (B + o) 20 (some (B + b + 5))) (B + b + 6)) (B + o) 23 (some (B + b + 6))) (B + b + 7)) (B + o) 24 (some (B + b + 7))) (B + b + 8)) (B + o) 25 (some (B + b + 8))) (B + b + 9)) (B + o) 26 (some (B + b + 9))) (B + b + 10)) (B + o) 27 (some (B + b + 10))) (B + b + 11)) (B + o) 28 (some (B + b + 11))) (B + b + 12)) (B + o) 43 (some (B + b + 12))) (B + b + 13)) (B + o) 45 (some (B + b + 13))) (B + b + 14)) (B + o) 46 (some (B + b + 14))) (B + b + 15)) (B + o) 47 (some (B + b + 15))) (B + b + 16)) (B + o) 50 (some (B + b + 16))) (B + b + 1) 0 (-1)) (B + b + 1) 1 (-1)) (B + b + 1) 2 (-1)) (B + b + 1) 3 (-1)) (B + b + 4) 0 16) (B + b + 4) 1 8) (B + o) 19 = some (B + b + 4) := (D42.ptr (lt_app hl)).trans (by simp [lkP, lk, Nat.add_assoc, hne, hne0])
  simp only [w_lt, pq2, w_nn]
  refine ok_tg (D42.tag (q := (20, 1476)) (tgo hb 4 rfl)) ?_
  rw [show gL (gA (gA (gA (gA (gA (gA (gA (gA (gA (gA (gA (gA (gA (gA (gA (gA (gA g 20 4) 20 4) 21 240) 23 900) 20 1476) 22 984) 20 96) 20 96) 20 4) 20 16) 20 30) 20 30) 22 16) 20 6) 20 30) 20 30) 20 16) (B + b + 4) = 1476 from D42.len (q := (20, 1476)) (tgo hb 4 rfl), w_ixl (i := 2) (by decide) (by decide), cl_l 2 (by decide)]
  have D43 := D42.aI (o := (b + 4)) (k := 2) (lt_apo hb (c := 4) (by decide)) 4
  exact ok_ret D43
