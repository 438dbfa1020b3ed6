/-! written by wip/whole/pure/inits.py: the constructors -/
theorem DI.new2 {B : Nat} {T L : List (Nat × Nat)} {I : List (Nat × Nat × Int32)} {Q : List (Nat × Nat × UInt64)} {P A : List (Nat × Nat × Nat)} {g : MT} {h : CT} {t n : Nat} (H : DI B (T ++ L) I Q P A g h) (m : Nat) (hm : gN g = m) : DI B (T ++ (L ++ [(t, n)])) I Q P A (gA g t n) (hZ h m) := by rw [← List.append_assoc]; exact H.new m hm
theorem DI.reT {B : Nat} {T L M : List (Nat × Nat)} {I : List (Nat × Nat × Int32)} {Q : List (Nat × Nat × UInt64)} {P A : List (Nat × Nat × Nat)} {g : MT} {h : CT} (H : DI B (T ++ L ++ M) I Q P A g h) : DI B (T ++ (L ++ M)) I Q P A g h := by rw [← List.append_assoc]; exact H
theorem le_app {T L0 L1 : List (Nat × Nat)} (h : L0.length ≤ L1.length) : (T ++ L0).length ≤ (T ++ L1).length := by rw [List.length_append, List.length_append]; exact Nat.add_le_add_left h _
theorem sum_app {T L0 L1 : List (Nat × Nat)} (h : (L0.map Prod.snd).sum ≤ (L1.map Prod.snd).sum) : ((T ++ L0).map Prod.snd).sum ≤ ((T ++ L1).map Prod.snd).sum := by rw [List.map_append, List.map_append, List.sum_append, List.sum_append]; exact Nat.add_le_add_left h _
theorem le_app0 {T L : List (Nat × Nat)} : T.length ≤ (T ++ L).length := by rw [List.length_append]; omega
theorem sum_app0 {T L : List (Nat × Nat)} : (T.map Prod.snd).sum ≤ ((T ++ L).map Prod.snd).sum := by rw [List.map_append, List.sum_append]; omega
theorem lt_app {T L : List (Nat × Nat)} {o : Nat} (h : o < T.length) : o < (T ++ L).length := by rw [List.length_append]; omega
theorem lt_apo {T L : List (Nat × Nat)} {b c : Nat} (hb : T.length = b) (h : c < L.length) : b + c < (T ++ L).length := by rw [List.length_append]; omega
theorem tgl {T L : List (Nat × Nat)} {o : Nat} {q : Nat × Nat} (h : T[o]? = some q) : (T ++ L)[o]? = some q := by rw [List.getElem?_append_left (List.getElem?_eq_some_iff.mp h).1]; exact h
theorem tgo {T L : List (Nat × Nat)} {b : Nat} {q : Nat × Nat} (hb : T.length = b) (c : Nat) (h : L[c]? = some q) : (T ++ L)[b + c]? = some q := by rw [List.getElem?_append_right (by omega), hb, Nat.add_sub_cancel_left]; exact h
theorem max_n0 (n : Nat) (h : n < 2 ^ 31) : pJ9_max_7cf53 (nI n) 0 = nI n := by unfold pJ9_max_7cf53; rw [if_neg (nI_pos h)]
set_option maxRecDepth 100000 in
set_option maxHeartbeats 20000000 in
theorem i_row (n : Nat) (hn : n ≤ 4096) {B : Nat} {T : List (Nat × Nat)} {I : List (Nat × Nat × Int32)} {Q : List (Nat × Nat × UInt64)} {P A : List (Nat × Nat × Nat)} {g : MT} {h : CT} (H : DI B T I Q P A g h) (b : Nat) (hb : T.length = b) (o : Nat) (ho : T[o]? = some (7, 2)) : OkI B (T ++ [(22, n), (24, n)]) (I) (Q) ((o, 1, (b + 1)) :: (o, 0, b) :: P) (A) (pX8_init g h (B + o) (nI n)) := by
  have hl : o < T.length := (List.getElem?_eq_some_iff.mp ho).1
  have hN : gN g = B + b := by rw [H.N, hb]
  have hne : ∀ c : Nat, (o = b + c) = False := fun c => by apply eq_false; omega
  have hne0 : (o = b) = False := by apply eq_false; omega
  have hno : ∀ c : Nat, (b + c = o) = False := fun c => by apply eq_false; omega
  unfold pX8_init
  simp only [w_lt, gN_gA, hN, max_n0 n (show n < 2 ^ 31 by omega), w_na hn, nI_clamp (show n < 2 ^ 31 by omega)]
  refine ok_gq H (by simp) (by simp) ?_
  have D1 := H.new (t := 22) (n := n) (B + b) (by rw [H.N, hb])
  refine ok_gq D1 (by simp) (by simp) ?_
  refine ok_tg (D1.tag (q := (7, 2)) (tgl ho)) ?_
  have D2 := D1.aR (o := o) (k := 0) (lt_app hl) b
  have D3 := D2.new2 (t := 24) (n := n) (B + b + 1) (by rw [D2.N, List.length_append, hb]; rfl)
  refine ok_gq D3 (by simp) (by simp) ?_
  refine ok_tg (D3.tag (q := (7, 2)) (tgl ho)) ?_
  have D4 := D3.aR (o := o) (k := 1) (lt_app hl) (b + 1)
  exact ok_ret D4
set_option maxRecDepth 100000 in
set_option maxHeartbeats 20000000 in
theorem i_prog {B : Nat} {T : List (Nat × Nat)} {I : List (Nat × Nat × Int32)} {Q : List (Nat × Nat × UInt64)} {P A : List (Nat × Nat × Nat)} {g : MT} {h : CT} (H : DI B T I Q P A g h) (b : Nat) (hb : T.length = b) (o : Nat) (ho : T[o]? = some (6, 2)) : OkI B (T ++ [(25, 30)]) (I) (Q) ((o, 0, b) :: P) (A) (pX7_init g h (B + o)) := by
  have hl : o < T.length := (List.getElem?_eq_some_iff.mp ho).1
  have hN : gN g = B + b := by rw [H.N, hb]
  have hne : ∀ c : Nat, (o = b + c) = False := fun c => by apply eq_false; omega
  have hne0 : (o = b) = False := by apply eq_false; omega
  have hno : ∀ c : Nat, (b + c = o) = False := fun c => by apply eq_false; omega
  unfold pX7_init
  try simp only [w_lt, gN_gA, hN]
  refine ok_gq H (le_app0) (sum_app0) ?_
  have D1 := H.new (t := 25) (n := 30) (B + b) (by rw [H.N, hb])
  refine ok_gq D1 (le_app (by decide +kernel)) (sum_app (by decide +kernel)) ?_
  refine ok_tg (D1.tag (q := (6, 2)) (tgl ho)) ?_
  have D2 := D1.aR (o := o) (k := 0) (lt_app hl) b
  exact ok_ret D2
set_option maxRecDepth 100000 in
set_option maxHeartbeats 20000000 in
theorem i_tray {B : Nat} {T : List (Nat × Nat)} {I : List (Nat × Nat × Int32)} {Q : List (Nat × Nat × UInt64)} {P A : List (Nat × Nat × Nat)} {g : MT} {h : CT} (H : DI B T I Q P A g h) (b : Nat) (hb : T.length = b) (o : Nat) (ho : T[o]? = some (10, 4)) : OkI B (T ++ [(21, 60)]) (I) (Q) ((o, 3, b) :: P) (A) (pX11_init g h (B + o)) := by
  have hl : o < T.length := (List.getElem?_eq_some_iff.mp ho).1
  have hN : gN g = B + b := by rw [H.N, hb]
  have hne : ∀ c : Nat, (o = b + c) = False := fun c => by apply eq_false; omega
  have hne0 : (o = b) = False := by apply eq_false; omega
  have hno : ∀ c : Nat, (b + c = o) = False := fun c => by apply eq_false; omega
  unfold pX11_init
  try simp only [w_lt, gN_gA, hN]
  refine ok_gq H (le_app0) (sum_app0) ?_
  have D1 := H.new (t := 21) (n := 60) (B + b) (by rw [H.N, hb])
  refine ok_gq D1 (le_app (by decide +kernel)) (sum_app (by decide +kernel)) ?_
  refine ok_tg (D1.tag (q := (10, 4)) (tgl ho)) ?_
  have D2 := D1.aR (o := o) (k := 3) (lt_app hl) b
  exact ok_ret D2
set_option maxRecDepth 100000 in
set_option maxHeartbeats 20000000 in
theorem i_num {B : Nat} {T : List (Nat × Nat)} {I : List (Nat × Nat × Int32)} {Q : List (Nat × Nat × UInt64)} {P A : List (Nat × Nat × Nat)} {g : MT} {h : CT} (H : DI B T I Q P A g h) (b : Nat) (hb : T.length = b) (o : Nat) (ho : T[o]? = some (4, 2)) : OkI B (T) (I) (Q) (P) (A) (pX4_init g h (B + o)) := by
  have hl : o < T.length := (List.getElem?_eq_some_iff.mp ho).1
  have hN : gN g = B + b := by rw [H.N, hb]
  have hne : ∀ c : Nat, (o = b + c) = False := fun c => by apply eq_false; omega
  have hne0 : (o = b) = False := by apply eq_false; omega
  have hno : ∀ c : Nat, (b + c = o) = False := fun c => by apply eq_false; omega
  unfold pX4_init
  try simp only [w_lt, gN_gA, hN]
  refine ok_gq H (by simp) (by simp) ?_
  exact ok_ret H
set_option maxRecDepth 100000 in
set_option maxHeartbeats 20000000 in
theorem i_times {E : EC} {aL : Nat} (eL : E.1 0 = .ref aL ∧ gT E.2.2 aL = 20 ∧ gL E.2.2 aL = 4) {B : Nat} {T : List (Nat × Nat)} {I : List (Nat × Nat × Int32)} {Q : List (Nat × Nat × UInt64)} {P A : List (Nat × Nat × Nat)} {g : MT} {h : CT} (H : DI B T I Q P A g h) (b : Nat) (hb : T.length = b) (o : Nat) (ho : T[o]? = some (9, 17)) : OkI B (T ++ [(20, 30), (20, 30), (20, 4), (20, 96), (20, 96), (20, 16)]) (I) (Q) ((o, 16, (b + 5)) :: (o, 15, (b + 4)) :: (o, 14, (b + 3)) :: (o, 13, (b + 2)) :: (o, 7, (b + 1)) :: (o, 6, b) :: P) (A) (pX10_init E g h (B + o)) := by
  have hl : o < T.length := (List.getElem?_eq_some_iff.mp ho).1
  have hN : gN g = B + b := by rw [H.N, hb]
  have hne : ∀ c : Nat, (o = b + c) = False := fun c => by apply eq_false; omega
  have hne0 : (o = b) = False := by apply eq_false; omega
  have hno : ∀ c : Nat, (b + c = o) = False := fun c => by apply eq_false; omega
  unfold pX10_init
  simp only [w_lt, gN_gA, hN, eL.1, w_kR, w_tg eL.2.1, eL.2.2, w_na4, cl4]
  refine ok_gq H (le_app0) (sum_app0) ?_
  have D1 := H.new (t := 20) (n := 30) (B + b) (by rw [H.N, hb])
  refine ok_gq D1 (le_app (by decide +kernel)) (sum_app (by decide +kernel)) ?_
  refine ok_tg (D1.tag (q := (9, 17)) (tgl ho)) ?_
  have D2 := D1.aR (o := o) (k := 6) (lt_app hl) b
  have D3 := D2.new2 (t := 20) (n := 30) (B + b + 1) (by rw [D2.N, List.length_append, hb]; rfl)
  refine ok_gq D3 (le_app (by decide +kernel)) (sum_app (by decide +kernel)) ?_
  refine ok_tg (D3.tag (q := (9, 17)) (tgl ho)) ?_
  have D4 := D3.aR (o := o) (k := 7) (lt_app hl) (b + 1)
  have D5 := D4.new2 (t := 20) (n := 4) (B + b + 2) (by rw [D4.N, List.length_append, hb]; rfl)
  refine ok_gq D5 (le_app (by decide +kernel)) (sum_app (by decide +kernel)) ?_
  refine ok_tg (D5.tag (q := (9, 17)) (tgl ho)) ?_
  have D6 := D5.aR (o := o) (k := 13) (lt_app hl) (b + 2)
  have D7 := D6.new2 (t := 20) (n := 96) (B + b + 3) (by rw [D6.N, List.length_append, hb]; rfl)
  refine ok_gq D7 (le_app (by decide +kernel)) (sum_app (by decide +kernel)) ?_
  refine ok_tg (D7.tag (q := (9, 17)) (tgl ho)) ?_
  have D8 := D7.aR (o := o) (k := 14) (lt_app hl) (b + 3)
  have D9 := D8.new2 (t := 20) (n := 96) (B + b + 4) (by rw [D8.N, List.length_append, hb]; rfl)
  refine ok_gq D9 (le_app (by decide +kernel)) (sum_app (by decide +kernel)) ?_
  refine ok_tg (D9.tag (q := (9, 17)) (tgl ho)) ?_
  have D10 := D9.aR (o := o) (k := 15) (lt_app hl) (b + 4)
  have D11 := D10.new2 (t := 20) (n := 16) (B + b + 5) (by rw [D10.N, List.length_append, hb]; rfl)
  refine ok_gq D11 (le_app (by decide +kernel)) (sum_app (by decide +kernel)) ?_
  refine ok_tg (D11.tag (q := (9, 17)) (tgl ho)) ?_
  have D12 := D11.aR (o := o) (k := 16) (lt_app hl) (b + 5)
  exact ok_ret D12
set_option maxRecDepth 100000 in
set_option maxHeartbeats 20000000 in
theorem i_parser {E : EC} {s0 : Nat} (eS : E.1 50 = .ref s0) {B : Nat} {T : List (Nat × Nat)} {I : List (Nat × Nat × Int32)} {Q : List (Nat × Nat × UInt64)} {P A : List (Nat × Nat × Nat)} {g : MT} {h : CT} (H : DI B T I Q P A g h) (b : Nat) (hb : T.length = b) (o : Nat) (ho : T[o]? = some (5, 12)) (hp9 : lk none (List.map (fun q : Nat × Nat × Nat => (q.1, q.2.1, some q.2.2)) ((o, 2, b) :: P)) o 9 = none) : OkI B (T ++ [(23, 0)]) ((o, 1, (-1)) :: (o, 0, (-1)) :: I) (Q) ((o, 2, b) :: P) ((o, 9, s0) :: A) (pX6_init E g h (B + o)) := by
  have hl : o < T.length := (List.getElem?_eq_some_iff.mp ho).1
  have hN : gN g = B + b := by rw [H.N, hb]
  have hne : ∀ c : Nat, (o = b + c) = False := fun c => by apply eq_false; omega
  have hne0 : (o = b) = False := by apply eq_false; omega
  have hno : ∀ c : Nat, (b + c = o) = False := fun c => by apply eq_false; omega
  unfold pX6_init
  simp only [w_lt, gN_gA, hN, eS, w_kR]
  refine ok_gq H (le_app0) (sum_app0) ?_
  refine ok_tg (H.tag (q := (5, 12)) ho) ?_
  have D1 := H.aI (o := o) (k := 0) hl (-1)
  have D2 := D1.aI (o := o) (k := 1) hl (-1)
  have D3 := D2.new (t := 23) (n := 0) (B + b) (by rw [D2.N, hb])
  refine ok_gq D3 (le_app (by decide +kernel)) (sum_app (by decide +kernel)) ?_
  refine ok_tg (D3.tag (q := (5, 12)) (tgl ho)) ?_
  have D4 := D3.aR (o := o) (k := 2) (lt_app hl) b
  have D5 := D4.aRa (o := o) (k := 9) (lt_app hl) hp9 s0
  exact ok_ret D5
set_option maxRecDepth 100000 in
set_option maxHeartbeats 20000000 in
theorem i_runner (u : Nat) {B : Nat} {T : List (Nat × Nat)} {I : List (Nat × Nat × Int32)} {Q : List (Nat × Nat × UInt64)} {P A : List (Nat × Nat × Nat)} {g : MT} {h : CT} (H : DI B T I Q P A g h) (b : Nat) (hb : T.length = b) (o : Nat) (ho : T[o]? = some (8, 11)) : OkI B (T ++ [(7, 2), (22, 16), (24, 16), (4, 2), (4, 2)]) (I) (Q) ((o, 3, (b + 4)) :: (o, 2, (b + 3)) :: (o, 1, b) :: (b, 1, (b + 2)) :: (b, 0, (b + 1)) :: (o, 0, u) :: P) (A) (pX9_init g h (B + o) (B + u)) := by
  have hl : o < T.length := (List.getElem?_eq_some_iff.mp ho).1
  have hN : gN g = B + b := by rw [H.N, hb]
  have hne : ∀ c : Nat, (o = b + c) = False := fun c => by apply eq_false; omega
  have hne0 : (o = b) = False := by apply eq_false; omega
  have hno : ∀ c : Nat, (b + c = o) = False := fun c => by apply eq_false; omega
  unfold pX9_init
  try simp only [w_lt, gN_gA, hN]
  refine ok_gq H (le_app0) (sum_app0) ?_
  refine ok_tg (H.tag (q := (8, 11)) ho) ?_
  have D1 := H.aR (o := o) (k := 0) hl u
  have D2 := D1.new (t := 7) (n := 2) (B + b) (by rw [D1.N, hb])
  refine ok_gq D2 (le_app (by decide +kernel)) (sum_app (by decide +kernel)) ?_
  refine ok_tg (D2.tag (q := (7, 2)) (tgo hb 0 rfl)) ?_
  refine ok_bd2 (i_row 16 (by decide) D2 (b + 1) (by rw [List.length_append, hb]; rfl) b (tgo hb 0 rfl)) (fun g3 h3 D3 => ?_)
  replace D3 := D3.reT
  have hN3 : gN g3 = B + b + 3 := by rw [D3.N, List.length_append, hb]; rfl
  try simp only [w_lt, gN_gA, hN3]
  refine ok_gq D3 (le_app (by decide +kernel)) (sum_app (by decide +kernel)) ?_
  refine ok_tg (D3.tag (q := (8, 11)) (tgl ho)) ?_
  have D4 := D3.aR (o := o) (k := 1) (lt_app hl) b
  have D5 := D4.new2 (t := 4) (n := 2) (B + b + 3) (by rw [D4.N, List.length_append, hb]; rfl)
  refine ok_gq D5 (le_app (by decide +kernel)) (sum_app (by decide +kernel)) ?_
  refine ok_tg (D5.tag (q := (4, 2)) (tgo hb 3 rfl)) ?_
  refine ok_bd2 (i_num D5 (b + 4) (by rw [List.length_append, hb]; rfl) (b + 3) (tgo hb 3 rfl)) (fun g6 h6 D6 => ?_)
  have hN6 : gN g6 = B + b + 4 := by rw [D6.N, List.length_append, hb]; rfl
  try simp only [w_lt, gN_gA, hN6]
  refine ok_gq D6 (le_app (by decide +kernel)) (sum_app (by decide +kernel)) ?_
  refine ok_tg (D6.tag (q := (8, 11)) (tgl ho)) ?_
  have D7 := D6.aR (o := o) (k := 2) (lt_app hl) (b + 3)
  have D8 := D7.new2 (t := 4) (n := 2) (B + b + 4) (by rw [D7.N, List.length_append, hb]; rfl)
  refine ok_gq D8 (le_app (by decide +kernel)) (sum_app (by decide +kernel)) ?_
  refine ok_tg (D8.tag (q := (4, 2)) (tgo hb 4 rfl)) ?_
  refine ok_bd2 (i_num D8 (b + 5) (by rw [List.length_append, hb]; rfl) (b + 4) (tgo hb 4 rfl)) (fun g9 h9 D9 => ?_)
  have hN9 : gN g9 = B + b + 5 := by rw [D9.N, List.length_append, hb]; rfl
  try simp only [w_lt, gN_gA, hN9]
  refine ok_gq D9 (le_app (by decide +kernel)) (sum_app (by decide +kernel)) ?_
  refine ok_tg (D9.tag (q := (8, 11)) (tgl ho)) ?_
  have D10 := D9.aR (o := o) (k := 3) (lt_app hl) (b + 4)
  exact ok_ret D10
/-- 2 to the 1, 2, 4 .. as the constructor makes them -/
def pwv : Nat → UInt64
  | 0 => 4611686018427387904
  | k + 1 => fmul (pwv k) (pwv k)
set_option maxRecDepth 100000 in
set_option maxHeartbeats 20000000 in
theorem i_binary {B : Nat} {T : List (Nat × Nat)} {I : List (Nat × Nat × Int32)} {Q : List (Nat × Nat × UInt64)} {P A : List (Nat × Nat × Nat)} {g : MT} {h : CT} (H : DI B T I Q P A g h) (b : Nat) (hb : T.length = b) (o : Nat) (ho : T[o]? = some (1, 5)) : OkI B (T ++ [(22, 10)]) (I) ((b, 9, (pwv 9)) :: (b, 8, (pwv 8)) :: (b, 7, (pwv 7)) :: (b, 6, (pwv 6)) :: (b, 5, (pwv 5)) :: (b, 4, (pwv 4)) :: (b, 3, (pwv 3)) :: (b, 2, (pwv 2)) :: (b, 1, (pwv 1)) :: (b, 0, (pwv 0)) :: Q) ((o, 2, b) :: P) (A) (pX1_init g h (B + o)) := by
  have hl : o < T.length := (List.getElem?_eq_some_iff.mp ho).1
  have hN : gN g = B + b := by rw [H.N, hb]
  have hne : ∀ c : Nat, (o = b + c) = False := fun c => by apply eq_false; omega
  have hne0 : (o = b) = False := by apply eq_false; omega
  have hno : ∀ c : Nat, (b + c = o) = False := fun c => by apply eq_false; omega
  unfold pX1_init
  try simp only [w_lt, gN_gA, hN]
  refine ok_gq H (le_app0) (sum_app0) ?_
  have D1 := H.new (t := 22) (n := 10) (B + b) (by rw [H.N, hb])
  refine ok_gq D1 (le_app (by decide +kernel)) (sum_app (by decide +kernel)) ?_
  refine ok_tg (D1.tag (q := (1, 5)) (tgl ho)) ?_
  have D2 := D1.aR (o := o) (k := 2) (lt_app hl) b
  rw [show FUEL = 4989 + 1 + 1 + 1 + 1 + 1 + 1 + 1 + 1 + 1 + 1 + 1 from rfl, show (0 : Int32) = nI 0 from rfl, show (4611686018427387904 : UInt64) = pwv 0 from rfl]
  rw [pX1_init_l18, pX1_init_b18, if_neg (show ¬ 10 ≤ nI 0 from nI_ge (b := 10) (by decide) (by decide))]
  refine ok_tg (D2.tag (q := (1, 5)) (tgl ho)) ?_
  simp only [w_lt, show hR (sR (hZ h (B + b)) (B + o) 2 (some (B + b))) (B + o) 2 = some (B + b) from by first | (rw [D2.ptr (lt_app hl)]; simp [lkP, lk]) | skip, w_nn]
  refine ok_tg (D2.tag (q := (22, 10)) (tgo hb 0 rfl)) ?_
  rw [show gL (gA g 22 10) (B + b) = 10 from D2.len (q := (22, 10)) (tgo hb 0 rfl), w_ix (show 0 < 10 by decide) (by decide), show (nI 0).toNatClampNeg = 0 from by decide]
  have D3 := D2.aD (o := b) (k := 0) (by simp [hb]) (pwv 0)
  rw [if_neg (show ¬ 9 ≤ nI 0 from nI_ge (b := 9) (by decide) (by decide)), pX1_init_b44, w_lt, show nI 0 + 1 = nI 1 from by decide, show fmul (pwv 0) (pwv 0) = pwv 1 from rfl]
  rw [pX1_init_l18, pX1_init_b18, if_neg (show ¬ 10 ≤ nI 1 from nI_ge (b := 10) (by decide) (by decide))]
  refine ok_tg (D3.tag (q := (1, 5)) (tgl ho)) ?_
  simp only [w_lt, show hR (sD (sR (hZ h (B + b)) (B + o) 2 (some (B + b))) (B + b) 0 (pwv 0)) (B + o) 2 = some (B + b) from by first | (rw [D3.ptr (lt_app hl)]; simp [lkP, lk]) | skip, w_nn]
  refine ok_tg (D3.tag (q := (22, 10)) (tgo hb 0 rfl)) ?_
  rw [show gL (gA g 22 10) (B + b) = 10 from D3.len (q := (22, 10)) (tgo hb 0 rfl), w_ix (show 1 < 10 by decide) (by decide), show (nI 1).toNatClampNeg = 1 from by decide]
  have D4 := D3.aD (o := b) (k := 1) (by simp [hb]) (pwv 1)
  rw [if_neg (show ¬ 9 ≤ nI 1 from nI_ge (b := 9) (by decide) (by decide)), pX1_init_b44, w_lt, show nI 1 + 1 = nI 2 from by decide, show fmul (pwv 1) (pwv 1) = pwv 2 from rfl]
  rw [pX1_init_l18, pX1_init_b18, if_neg (show ¬ 10 ≤ nI 2 from nI_ge (b := 10) (by decide) (by decide))]
  refine ok_tg (D4.tag (q := (1, 5)) (tgl ho)) ?_
  simp only [w_lt, show hR (sD (sD (sR (hZ h (B + b)) (B + o) 2 (some (B + b))) (B + b) 0 (pwv 0)) (B + b) 1 (pwv 1)) (B + o) 2 = some (B + b) from by first | (rw [D4.ptr (lt_app hl)]; simp [lkP, lk]) | skip, w_nn]
  refine ok_tg (D4.tag (q := (22, 10)) (tgo hb 0 rfl)) ?_
  rw [show gL (gA g 22 10) (B + b) = 10 from D4.len (q := (22, 10)) (tgo hb 0 rfl), w_ix (show 2 < 10 by decide) (by decide), show (nI 2).toNatClampNeg = 2 from by decide]
  have D5 := D4.aD (o := b) (k := 2) (by simp [hb]) (pwv 2)
  rw [if_neg (show ¬ 9 ≤ nI 2 from nI_ge (b := 9) (by decide) (by decide)), pX1_init_b44, w_lt, show nI 2 + 1 = nI 3 from by decide, show fmul (pwv 2) (pwv 2) = pwv 3 from rfl]
  rw [pX1_init_l18, pX1_init_b18, if_neg (show ¬ 10 ≤ nI 3 from nI_ge (b := 10) (by decide) (by decide))]
  refine ok_tg (D5.tag (q := (1, 5)) (tgl ho)) ?_
  simp only [w_lt, show hR (sD (sD (sD (sR (hZ h (B + b)) (B + o) 2 (some (B + b))) (B + b) 0 (pwv 0)) (B + b) 1 (pwv 1)) (B + b) 2 (pwv 2)) (B + o) 2 = some (B + b) from by first | (rw [D5.ptr (lt_app hl)]; simp [lkP, lk]) | skip, w_nn]
  refine ok_tg (D5.tag (q := (22, 10)) (tgo hb 0 rfl)) ?_
  rw [show gL (gA g 22 10) (B + b) = 10 from D5.len (q := (22, 10)) (tgo hb 0 rfl), w_ix (show 3 < 10 by decide) (by decide), show (nI 3).toNatClampNeg = 3 from by decide]
  have D6 := D5.aD (o := b) (k := 3) (by simp [hb]) (pwv 3)
  rw [if_neg (show ¬ 9 ≤ nI 3 from nI_ge (b := 9) (by decide) (by decide)), pX1_init_b44, w_lt, show nI 3 + 1 = nI 4 from by decide, show fmul (pwv 3) (pwv 3) = pwv 4 from rfl]
  rw [pX1_init_l18, pX1_init_b18, if_neg (show ¬ 10 ≤ nI 4 from nI_ge (b := 10) (by decide) (by decide))]
  refine ok_tg (D6.tag (q := (1, 5)) (tgl ho)) ?_
  simp only [w_lt, show hR (sD (sD (sD (sD (sR (hZ h (B + b)) (B + o) 2 (some (B + b))) (B + b) 0 (pwv 0)) (B + b) 1 (pwv 1)) (B + b) 2 (pwv 2)) (B + b) 3 (pwv 3)) (B + o) 2 = some (B + b) from by first | (rw [D6.ptr (lt_app hl)]; simp [lkP, lk]) | skip, w_nn]
  refine ok_tg (D6.tag (q := (22, 10)) (tgo hb 0 rfl)) ?_
  rw [show gL (gA g 22 10) (B + b) = 10 from D6.len (q := (22, 10)) (tgo hb 0 rfl), w_ix (show 4 < 10 by decide) (by decide), show (nI 4).toNatClampNeg = 4 from by decide]
  have D7 := D6.aD (o := b) (k := 4) (by simp [hb]) (pwv 4)
  rw [if_neg (show ¬ 9 ≤ nI 4 from nI_ge (b := 9) (by decide) (by decide)), pX1_init_b44, w_lt, show nI 4 + 1 = nI 5 from by decide, show fmul (pwv 4) (pwv 4) = pwv 5 from rfl]
  rw [pX1_init_l18, pX1_init_b18, if_neg (show ¬ 10 ≤ nI 5 from nI_ge (b := 10) (by decide) (by decide))]
  refine ok_tg (D7.tag (q := (1, 5)) (tgl ho)) ?_
  simp only [w_lt, show hR (sD (sD (sD (sD (sD (sR (hZ h (B + b)) (B + o) 2 (some (B + b))) (B + b) 0 (pwv 0)) (B + b) 1 (pwv 1)) (B + b) 2 (pwv 2)) (B + b) 3 (pwv 3)) (B + b) 4 (pwv 4)) (B + o) 2 = some (B + b) from by first | (rw [D7.ptr (lt_app hl)]; simp [lkP, lk]) | skip, w_nn]
  refine ok_tg (D7.tag (q := (22, 10)) (tgo hb 0 rfl)) ?_
  rw [show gL (gA g 22 10) (B + b) = 10 from D7.len (q := (22, 10)) (tgo hb 0 rfl), w_ix (show 5 < 10 by decide) (by decide), show (nI 5).toNatClampNeg = 5 from by decide]
  have D8 := D7.aD (o := b) (k := 5) (by simp [hb]) (pwv 5)
  rw [if_neg (show ¬ 9 ≤ nI 5 from nI_ge (b := 9) (by decide) (by decide)), pX1_init_b44, w_lt, show nI 5 + 1 = nI 6 from by decide, show fmul (pwv 5) (pwv 5) = pwv 6 from rfl]
  rw [pX1_init_l18, pX1_init_b18, if_neg (show ¬ 10 ≤ nI 6 from nI_ge (b := 10) (by decide) (by decide))]
  refine ok_tg (D8.tag (q := (1, 5)) (tgl ho)) ?_
  simp only [w_lt, show hR (sD (sD (sD (sD (sD (sD (sR (hZ h (B + b)) (B + o) 2 (some (B + b))) (B + b) 0 (pwv 0)) (B + b) 1 (pwv 1)) (B + b) 2 (pwv 2)) (B + b) 3 (pwv 3)) (B + b) 4 (pwv 4)) (B + b) 5 (pwv 5)) (B + o) 2 = some (B + b) from by first | (rw [D8.ptr (lt_app hl)]; simp [lkP, lk]) | skip, w_nn]
  refine ok_tg (D8.tag (q := (22, 10)) (tgo hb 0 rfl)) ?_
  rw [show gL (gA g 22 10) (B + b) = 10 from D8.len (q := (22, 10)) (tgo hb 0 rfl), w_ix (show 6 < 10 by decide) (by decide), show (nI 6).toNatClampNeg = 6 from by decide]
  have D9 := D8.aD (o := b) (k := 6) (by simp [hb]) (pwv 6)
  rw [if_neg (show ¬ 9 ≤ nI 6 from nI_ge (b := 9) (by decide) (by decide)), pX1_init_b44, w_lt, show nI 6 + 1 = nI 7 from by decide, show fmul (pwv 6) (pwv 6) = pwv 7 from rfl]
  rw [pX1_init_l18, pX1_init_b18, if_neg (show ¬ 10 ≤ nI 7 from nI_ge (b := 10) (by decide) (by decide))]
  refine ok_tg (D9.tag (q := (1, 5)) (tgl ho)) ?_
  simp only [w_lt, show hR (sD (sD (sD (sD (sD (sD (sD (sR (hZ h (B + b)) (B + o) 2 (some (B + b))) (B + b) 0 (pwv 0)) (B + b) 1 (pwv 1)) (B + b) 2 (pwv 2)) (B + b) 3 (pwv 3)) (B + b) 4 (pwv 4)) (B + b) 5 (pwv 5)) (B + b) 6 (pwv 6)) (B + o) 2 = some (B + b) from by first | (rw [D9.ptr (lt_app hl)]; simp [lkP, lk]) | skip, w_nn]
  refine ok_tg (D9.tag (q := (22, 10)) (tgo hb 0 rfl)) ?_
  rw [show gL (gA g 22 10) (B + b) = 10 from D9.len (q := (22, 10)) (tgo hb 0 rfl), w_ix (show 7 < 10 by decide) (by decide), show (nI 7).toNatClampNeg = 7 from by decide]
  have D10 := D9.aD (o := b) (k := 7) (by simp [hb]) (pwv 7)
  rw [if_neg (show ¬ 9 ≤ nI 7 from nI_ge (b := 9) (by decide) (by decide)), pX1_init_b44, w_lt, show nI 7 + 1 = nI 8 from by decide, show fmul (pwv 7) (pwv 7) = pwv 8 from rfl]
  rw [pX1_init_l18, pX1_init_b18, if_neg (show ¬ 10 ≤ nI 8 from nI_ge (b := 10) (by decide) (by decide))]
  refine ok_tg (D10.tag (q := (1, 5)) (tgl ho)) ?_
  simp only [w_lt, show hR (sD (sD (sD (sD (sD (sD (sD (sD (sR (hZ h (B + b)) (B + o) 2 (some (B + b))) (B + b) 0 (pwv 0)) (B + b) 1 (pwv 1)) (B + b) 2 (pwv 2)) (B + b) 3 (pwv 3)) (B + b) 4 (pwv 4)) (B + b) 5 (pwv 5)) (B + b) 6 (pwv 6)) (B + b) 7 (pwv 7)) (B + o) 2 = some (B + b) from by first | (rw [D10.ptr (lt_app hl)]; simp [lkP, lk]) | skip, w_nn]
  refine ok_tg (D10.tag (q := (22, 10)) (tgo hb 0 rfl)) ?_
  rw [show gL (gA g 22 10) (B + b) = 10 from D10.len (q := (22, 10)) (tgo hb 0 rfl), w_ix (show 8 < 10 by decide) (by decide), show (nI 8).toNatClampNeg = 8 from by decide]
  have D11 := D10.aD (o := b) (k := 8) (by simp [hb]) (pwv 8)
  rw [if_neg (show ¬ 9 ≤ nI 8 from nI_ge (b := 9) (by decide) (by decide)), pX1_init_b44, w_lt, show nI 8 + 1 = nI 9 from by decide, show fmul (pwv 8) (pwv 8) = pwv 9 from rfl]
  rw [pX1_init_l18, pX1_init_b18, if_neg (show ¬ 10 ≤ nI 9 from nI_ge (b := 10) (by decide) (by decide))]
  refine ok_tg (D11.tag (q := (1, 5)) (tgl ho)) ?_
  simp only [w_lt, show hR (sD (sD (sD (sD (sD (sD (sD (sD (sD (sR (hZ h (B + b)) (B + o) 2 (some (B + b))) (B + b) 0 (pwv 0)) (B + b) 1 (pwv 1)) (B + b) 2 (pwv 2)) (B + b) 3 (pwv 3)) (B + b) 4 (pwv 4)) (B + b) 5 (pwv 5)) (B + b) 6 (pwv 6)) (B + b) 7 (pwv 7)) (B + b) 8 (pwv 8)) (B + o) 2 = some (B + b) from by first | (rw [D11.ptr (lt_app hl)]; simp [lkP, lk]) | skip, w_nn]
  refine ok_tg (D11.tag (q := (22, 10)) (tgo hb 0 rfl)) ?_
  rw [show gL (gA g 22 10) (B + b) = 10 from D11.len (q := (22, 10)) (tgo hb 0 rfl), w_ix (show 9 < 10 by decide) (by decide), show (nI 9).toNatClampNeg = 9 from by decide]
  have D12 := D11.aD (o := b) (k := 9) (by simp [hb]) (pwv 9)
  rw [if_pos (show 9 ≤ nI 9 from nI_le (a := 9) (by decide) (by decide)), pX1_init_b44, w_lt, show nI 9 + 1 = nI 10 from by decide]
  rw [pX1_init_l18, pX1_init_b18, if_pos (show 10 ≤ nI 10 from nI_le (a := 10) (by decide) (by decide))]
  exact ok_ret D12
set_option maxRecDepth 100000 in
set_option maxHeartbeats 20000000 in
theorem i_mach {B : Nat} {T : List (Nat × Nat)} {I : List (Nat × Nat × Int32)} {Q : List (Nat × Nat × UInt64)} {P A : List (Nat × Nat × Nat)} {g : MT} {h : CT} (H : DI B T I Q P A g h) (b : Nat) (hb : T.length = b) (o : Nat) (ho : T[o]? = some (3, 9)) : OkI B (T ++ [(27, 6), (7, 2), (22, 16), (24, 16), (7, 2), (22, 16), (24, 16), (7, 2), (22, 16), (24, 16), (7, 2), (22, 16), (24, 16), (7, 2), (22, 16), (24, 16), (7, 2), (22, 16), (24, 16), (24, 6), (7, 2), (22, 4), (24, 4), (7, 2), (22, 64), (24, 64), (6, 2), (25, 30)]) ((o, 7, 4) :: (o, 6, 8) :: (o, 5, 16) :: I) (Q) ((o, 8, (b + 26)) :: ((b + 26), 0, (b + 27)) :: (o, 3, (b + 23)) :: ((b + 23), 1, (b + 25)) :: ((b + 23), 0, (b + 24)) :: (o, 2, (b + 20)) :: ((b + 20), 1, (b + 22)) :: ((b + 20), 0, (b + 21)) :: (o, 1, (b + 19)) :: (b, 5, (b + 16)) :: ((b + 16), 1, (b + 18)) :: ((b + 16), 0, (b + 17)) :: (b, 4, (b + 13)) :: ((b + 13), 1, (b + 15)) :: ((b + 13), 0, (b + 14)) :: (b, 3, (b + 10)) :: ((b + 10), 1, (b + 12)) :: ((b + 10), 0, (b + 11)) :: (b, 2, (b + 7)) :: ((b + 7), 1, (b + 9)) :: ((b + 7), 0, (b + 8)) :: (b, 1, (b + 4)) :: ((b + 4), 1, (b + 6)) :: ((b + 4), 0, (b + 5)) :: (b, 0, (b + 1)) :: ((b + 1), 1, (b + 3)) :: ((b + 1), 0, (b + 2)) :: (o, 0, b) :: P) (A) (pX3_init g h (B + o)) := by
  have hl : o < T.length := (List.getElem?_eq_some_iff.mp ho).1
  have hN : gN g = B + b := by rw [H.N, hb]
  have hne : ∀ c : Nat, (o = b + c) = False := fun c => by apply eq_false; omega
  have hne0 : (o = b) = False := by apply eq_false; omega
  have hno : ∀ c : Nat, (b + c = o) = False := fun c => by apply eq_false; omega
  unfold pX3_init
  try simp only [w_lt, gN_gA, hN]
  refine ok_gq H (le_app0) (sum_app0) ?_
  have D1 := H.new (t := 27) (n := 6) (B + b) (by rw [H.N, hb])
  refine ok_gq D1 (le_app (by decide +kernel)) (sum_app (by decide +kernel)) ?_
  refine ok_tg (D1.tag (q := (3, 9)) (tgl ho)) ?_
  have D2 := D1.aR (o := o) (k := 0) (lt_app hl) b
  rw [show FUEL = 4993 + 1 + 1 + 1 + 1 + 1 + 1 + 1 from rfl, show (0 : Int32) = nI 0 from rfl]
  rw [pX3_init_l15, pX3_init_b15, if_neg (show ¬ 6 ≤ nI 0 from nI_ge (b := 6) (by decide) (by decide))]
  refine ok_tg (D2.tag (q := (3, 9)) (tgl ho)) ?_
  have ptr0 : hR (sR (hZ h (B + b)) (B + o) 0 (some (B + b))) (B + o) 0 = some (B + b) := (D2.ptr (lt_app hl)).trans (by simp [lkP, lk, Nat.add_assoc, hne, hne0])
  simp only [w_lt, gN_gA, ptr0, hN]
  have D3 := D2.new2 (t := 7) (n := 2) (B + b + 1) (by rw [D2.N, List.length_append, hb]; rfl)
  refine ok_gq D3 (le_app (by decide +kernel)) (sum_app (by decide +kernel)) ?_
  refine ok_tg (D3.tag (q := (7, 2)) (tgo hb 1 rfl)) ?_
  refine ok_bd2 (i_row 16 (by decide) D3 (b + 2) (by rw [List.length_append, hb]; rfl) (b + 1) (tgo hb 1 rfl)) (fun g4 h4 D4 => ?_)
  replace D4 := D4.reT
  have hN4 : gN g4 = B + b + 4 := by rw [D4.N, List.length_append, hb]; rfl
  try simp only [w_lt, gN_gA, hN4]
  refine ok_gq D4 (le_app (by decide +kernel)) (sum_app (by decide +kernel)) ?_
  rw [w_nn]
  refine ok_tg (D4.tag (q := (27, 6)) (tgo hb 0 rfl)) ?_
  rw [show gL g4 (B + b) = 6 from D4.len (q := (27, 6)) (tgo hb 0 rfl), w_ix (show 0 < 6 by decide) (by decide), show (nI 0).toNatClampNeg = 0 from by decide]
  refine ok_tg (D4.tag (q := (7, 2)) (tgo hb 1 rfl)) ?_
  have D5 := D4.aR (o := b) (k := 0) (lt_apo hb (c := 0) (by decide)) (b + 1)
  simp only [w_lt, show nI 0 + 1 = nI 1 from by decide]
  rw [pX3_init_l15, pX3_init_b15, if_neg (show ¬ 6 ≤ nI 1 from nI_ge (b := 6) (by decide) (by decide))]
  refine ok_tg (D5.tag (q := (3, 9)) (tgl ho)) ?_
  have ptr1 : hR (sR h4 (B + b) 0 (some (B + b + 1))) (B + o) 0 = some (B + b) := (D5.ptr (lt_app hl)).trans (by simp [lkP, lk, Nat.add_assoc, hne, hne0])
  simp only [w_lt, gN_gA, ptr1, hN4]
  have D6 := D5.new2 (t := 7) (n := 2) (B + b + 4) (by rw [D5.N, List.length_append, hb]; rfl)
  refine ok_gq D6 (le_app (by decide +kernel)) (sum_app (by decide +kernel)) ?_
  refine ok_tg (D6.tag (q := (7, 2)) (tgo hb 4 rfl)) ?_
  refine ok_bd2 (i_row 16 (by decide) D6 (b + 5) (by rw [List.length_append, hb]; rfl) (b + 4) (tgo hb 4 rfl)) (fun g7 h7 D7 => ?_)
  replace D7 := D7.reT
  have hN7 : gN g7 = B + b + 7 := by rw [D7.N, List.length_append, hb]; rfl
  try simp only [w_lt, gN_gA, hN7]
  refine ok_gq D7 (le_app (by decide +kernel)) (sum_app (by decide +kernel)) ?_
  rw [w_nn]
  refine ok_tg (D7.tag (q := (27, 6)) (tgo hb 0 rfl)) ?_
  rw [show gL g7 (B + b) = 6 from D7.len (q := (27, 6)) (tgo hb 0 rfl), w_ix (show 1 < 6 by decide) (by decide), show (nI 1).toNatClampNeg = 1 from by decide]
  refine ok_tg (D7.tag (q := (7, 2)) (tgo hb 4 rfl)) ?_
  have D8 := D7.aR (o := b) (k := 1) (lt_apo hb (c := 0) (by decide)) (b + 4)
  simp only [w_lt, show nI 1 + 1 = nI 2 from by decide]
  rw [pX3_init_l15, pX3_init_b15, if_neg (show ¬ 6 ≤ nI 2 from nI_ge (b := 6) (by decide) (by decide))]
  refine ok_tg (D8.tag (q := (3, 9)) (tgl ho)) ?_
  have ptr2 : hR (sR h7 (B + b) 1 (some (B + b + 4))) (B + o) 0 = some (B + b) := (D8.ptr (lt_app hl)).trans (by simp [lkP, lk, Nat.add_assoc, hne, hne0])
  simp only [w_lt, gN_gA, ptr2, hN7]
  have D9 := D8.new2 (t := 7) (n := 2) (B + b + 7) (by rw [D8.N, List.length_append, hb]; rfl)
  refine ok_gq D9 (le_app (by decide +kernel)) (sum_app (by decide +kernel)) ?_
  refine ok_tg (D9.tag (q := (7, 2)) (tgo hb 7 rfl)) ?_
  refine ok_bd2 (i_row 16 (by decide) D9 (b + 8) (by rw [List.length_append, hb]; rfl) (b + 7) (tgo hb 7 rfl)) (fun g10 h10 D10 => ?_)
  replace D10 := D10.reT
  have hN10 : gN g10 = B + b + 10 := by rw [D10.N, List.length_append, hb]; rfl
  try simp only [w_lt, gN_gA, hN10]
  refine ok_gq D10 (le_app (by decide +kernel)) (sum_app (by decide +kernel)) ?_
  rw [w_nn]
  refine ok_tg (D10.tag (q := (27, 6)) (tgo hb 0 rfl)) ?_
  rw [show gL g10 (B + b) = 6 from D10.len (q := (27, 6)) (tgo hb 0 rfl), w_ix (show 2 < 6 by decide) (by decide), show (nI 2).toNatClampNeg = 2 from by decide]
  refine ok_tg (D10.tag (q := (7, 2)) (tgo hb 7 rfl)) ?_
  have D11 := D10.aR (o := b) (k := 2) (lt_apo hb (c := 0) (by decide)) (b + 7)
  simp only [w_lt, show nI 2 + 1 = nI 3 from by decide]
  rw [pX3_init_l15, pX3_init_b15, if_neg (show ¬ 6 ≤ nI 3 from nI_ge (b := 6) (by decide) (by decide))]
  refine ok_tg (D11.tag (q := (3, 9)) (tgl ho)) ?_
  have ptr3 : hR (sR h10 (B + b) 2 (some (B + b + 7))) (B + o) 0 = some (B + b) := (D11.ptr (lt_app hl)).trans (by simp [lkP, lk, Nat.add_assoc, hne, hne0])
  simp only [w_lt, gN_gA, ptr3, hN10]
  have D12 := D11.new2 (t := 7) (n := 2) (B + b + 10) (by rw [D11.N, List.length_append, hb]; rfl)
  refine ok_gq D12 (le_app (by decide +kernel)) (sum_app (by decide +kernel)) ?_
  refine ok_tg (D12.tag (q := (7, 2)) (tgo hb 10 rfl)) ?_
  refine ok_bd2 (i_row 16 (by decide) D12 (b + 11) (by rw [List.length_append, hb]; rfl) (b + 10) (tgo hb 10 rfl)) (fun g13 h13 D13 => ?_)
  replace D13 := D13.reT
  have hN13 : gN g13 = B + b + 13 := by rw [D13.N, List.length_append, hb]; rfl
  try simp only [w_lt, gN_gA, hN13]
  refine ok_gq D13 (le_app (by decide +kernel)) (sum_app (by decide +kernel)) ?_
  rw [w_nn]
  refine ok_tg (D13.tag (q := (27, 6)) (tgo hb 0 rfl)) ?_
  rw [show gL g13 (B + b) = 6 from D13.len (q := (27, 6)) (tgo hb 0 rfl), w_ix (show 3 < 6 by decide) (by decide), show (nI 3).toNatClampNeg = 3 from by decide]
  refine ok_tg (D13.tag (q := (7, 2)) (tgo hb 10 rfl)) ?_
  have D14 := D13.aR (o := b) (k := 3) (lt_apo hb (c := 0) (by decide)) (b + 10)
  simp only [w_lt, show nI 3 + 1 = nI 4 from by decide]
  rw [pX3_init_l15, pX3_init_b15, if_neg (show ¬ 6 ≤ nI 4 from nI_ge (b := 6) (by decide) (by decide))]
  refine ok_tg (D14.tag (q := (3, 9)) (tgl ho)) ?_
  have ptr4 : hR (sR h13 (B + b) 3 (some (B + b + 10))) (B + o) 0 = some (B + b) := (D14.ptr (lt_app hl)).trans (by simp [lkP, lk, Nat.add_assoc, hne, hne0])
  simp only [w_lt, gN_gA, ptr4, hN13]
  have D15 := D14.new2 (t := 7) (n := 2) (B + b + 13) (by rw [D14.N, List.length_append, hb]; rfl)
  refine ok_gq D15 (le_app (by decide +kernel)) (sum_app (by decide +kernel)) ?_
  refine ok_tg (D15.tag (q := (7, 2)) (tgo hb 13 rfl)) ?_
  refine ok_bd2 (i_row 16 (by decide) D15 (b + 14) (by rw [List.length_append, hb]; rfl) (b + 13) (tgo hb 13 rfl)) (fun g16 h16 D16 => ?_)
  replace D16 := D16.reT
  have hN16 : gN g16 = B + b + 16 := by rw [D16.N, List.length_append, hb]; rfl
  try simp only [w_lt, gN_gA, hN16]
  refine ok_gq D16 (le_app (by decide +kernel)) (sum_app (by decide +kernel)) ?_
  rw [w_nn]
  refine ok_tg (D16.tag (q := (27, 6)) (tgo hb 0 rfl)) ?_
  rw [show gL g16 (B + b) = 6 from D16.len (q := (27, 6)) (tgo hb 0 rfl), w_ix (show 4 < 6 by decide) (by decide), show (nI 4).toNatClampNeg = 4 from by decide]
  refine ok_tg (D16.tag (q := (7, 2)) (tgo hb 13 rfl)) ?_
  have D17 := D16.aR (o := b) (k := 4) (lt_apo hb (c := 0) (by decide)) (b + 13)
  simp only [w_lt, show nI 4 + 1 = nI 5 from by decide]
  rw [pX3_init_l15, pX3_init_b15, if_neg (show ¬ 6 ≤ nI 5 from nI_ge (b := 6) (by decide) (by decide))]
  refine ok_tg (D17.tag (q := (3, 9)) (tgl ho)) ?_
  have ptr5 : hR (sR h16 (B + b) 4 (some (B + b + 13))) (B + o) 0 = some (B + b) := (D17.ptr (lt_app hl)).trans (by simp [lkP, lk, Nat.add_assoc, hne, hne0])
  simp only [w_lt, gN_gA, ptr5, hN16]
  have D18 := D17.new2 (t := 7) (n := 2) (B + b + 16) (by rw [D17.N, List.length_append, hb]; rfl)
  refine ok_gq D18 (le_app (by decide +kernel)) (sum_app (by decide +kernel)) ?_
  refine ok_tg (D18.tag (q := (7, 2)) (tgo hb 16 rfl)) ?_
  refine ok_bd2 (i_row 16 (by decide) D18 (b + 17) (by rw [List.length_append, hb]; rfl) (b + 16) (tgo hb 16 rfl)) (fun g19 h19 D19 => ?_)
  replace D19 := D19.reT
  have hN19 : gN g19 = B + b + 19 := by rw [D19.N, List.length_append, hb]; rfl
  try simp only [w_lt, gN_gA, hN19]
  refine ok_gq D19 (le_app (by decide +kernel)) (sum_app (by decide +kernel)) ?_
  rw [w_nn]
  refine ok_tg (D19.tag (q := (27, 6)) (tgo hb 0 rfl)) ?_
  rw [show gL g19 (B + b) = 6 from D19.len (q := (27, 6)) (tgo hb 0 rfl), w_ix (show 5 < 6 by decide) (by decide), show (nI 5).toNatClampNeg = 5 from by decide]
  refine ok_tg (D19.tag (q := (7, 2)) (tgo hb 16 rfl)) ?_
  have D20 := D19.aR (o := b) (k := 5) (lt_apo hb (c := 0) (by decide)) (b + 16)
  simp only [w_lt, show nI 5 + 1 = nI 6 from by decide]
  rw [pX3_init_l15, pX3_init_b15, if_pos (show 6 ≤ nI 6 from nI_le (a := 6) (by decide) (by decide))]
  simp only [w_lt, gN_gA, hN19]
  have D21 := D20.new2 (t := 24) (n := 6) (B + b + 19) (by rw [D20.N, List.length_append, hb]; rfl)
  refine ok_gq D21 (le_app (by decide +kernel)) (sum_app (by decide +kernel)) ?_
  refine ok_tg (D21.tag (q := (3, 9)) (tgl ho)) ?_
  have D22 := D21.aR (o := o) (k := 1) (lt_app hl) (b + 19)
  have D23 := D22.new2 (t := 7) (n := 2) (B + b + 20) (by rw [D22.N, List.length_append, hb]; rfl)
  refine ok_gq D23 (le_app (by decide +kernel)) (sum_app (by decide +kernel)) ?_
  refine ok_tg (D23.tag (q := (7, 2)) (tgo hb 20 rfl)) ?_
  refine ok_bd2 (i_row 4 (by decide) D23 (b + 21) (by rw [List.length_append, hb]; rfl) (b + 20) (tgo hb 20 rfl)) (fun g24 h24 D24 => ?_)
  replace D24 := D24.reT
  have hN24 : gN g24 = B + b + 23 := by rw [D24.N, List.length_append, hb]; rfl
  try simp only [w_lt, gN_gA, hN24]
  refine ok_gq D24 (le_app (by decide +kernel)) (sum_app (by decide +kernel)) ?_
  refine ok_tg (D24.tag (q := (3, 9)) (tgl ho)) ?_
  have D25 := D24.aR (o := o) (k := 2) (lt_app hl) (b + 20)
  have D26 := D25.new2 (t := 7) (n := 2) (B + b + 23) (by rw [D25.N, List.length_append, hb]; rfl)
  refine ok_gq D26 (le_app (by decide +kernel)) (sum_app (by decide +kernel)) ?_
  refine ok_tg (D26.tag (q := (7, 2)) (tgo hb 23 rfl)) ?_
  refine ok_bd2 (i_row 64 (by decide) D26 (b + 24) (by rw [List.length_append, hb]; rfl) (b + 23) (tgo hb 23 rfl)) (fun g27 h27 D27 => ?_)
  replace D27 := D27.reT
  have hN27 : gN g27 = B + b + 26 := by rw [D27.N, List.length_append, hb]; rfl
  try simp only [w_lt, gN_gA, hN27]
  refine ok_gq D27 (le_app (by decide +kernel)) (sum_app (by decide +kernel)) ?_
  refine ok_tg (D27.tag (q := (3, 9)) (tgl ho)) ?_
  have D28 := D27.aR (o := o) (k := 3) (lt_app hl) (b + 23)
  have D29 := D28.aI (o := o) (k := 5) (lt_app hl) 16
  have D30 := D29.aI (o := o) (k := 6) (lt_app hl) 8
  have D31 := D30.aI (o := o) (k := 7) (lt_app hl) 4
  have D32 := D31.new2 (t := 6) (n := 2) (B + b + 26) (by rw [D31.N, List.length_append, hb]; rfl)
  refine ok_gq D32 (le_app (by decide +kernel)) (sum_app (by decide +kernel)) ?_
  refine ok_tg (D32.tag (q := (6, 2)) (tgo hb 26 rfl)) ?_
  refine ok_bd2 (i_prog D32 (b + 27) (by rw [List.length_append, hb]; rfl) (b + 26) (tgo hb 26 rfl)) (fun g33 h33 D33 => ?_)
  replace D33 := D33.reT
  have hN33 : gN g33 = B + b + 28 := by rw [D33.N, List.length_append, hb]; rfl
  try simp only [w_lt, gN_gA, hN33]
  refine ok_gq D33 (le_app (by decide +kernel)) (sum_app (by decide +kernel)) ?_
  refine ok_tg (D33.tag (q := (3, 9)) (tgl ho)) ?_
  have D34 := D33.aR (o := o) (k := 8) (lt_app hl) (b + 26)
  exact ok_ret D34
