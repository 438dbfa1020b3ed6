/-! rows of J: typed puts, arrays, new cells -/
section JP
variable {X : Cx} {cc : ByteArray} {own : String} {g : MT} {h : CT} {pc : Nat} {lv : List (Nat × Value)} {st : List Value} {a ci index k : Nat}
theorem J_putI {x : Int32} (F : Fx X cc own) (hd : decode cc pc = .ok (.putfield index, 3)) {fin : Bool} (hf : FL own index ci k fin) (hfin : fin = true → (xh X).name = "<init>" ∧ ∃ r, vwCl[ci]? = some r ∧ (r.2.1 k).1 = own) (ht : gT g a = ci + 1) (hn : narrow (tyC ci k) (.int x) = .int x) (hfit : fits (tyC ci k) (.int x) = true) (hv : vk (tyC ci k) (sI h a k x) a k = .int x) (kk : J X g (sI h a k x) (pc + 3) lv st) : J X g h pc lv (.int x :: va_rf (some a) :: st) := by
  intro H locs ls st' d0 a1 a2 a3 a4 b0
  obtain ⟨w1, s2, rfl, e1, b1⟩ := mc1 b0
  obtain ⟨w2, s3, rfl, e2, b2⟩ := mc1 b1
  cases cn_i e1; cases cn_q e2
  exact J_putx F hd hf hfin ht hn hfit hv (vk_sI h a k x) kk a1 a2 a3 a4 b2
theorem J_putL {x : Int64} (F : Fx X cc own) (hd : decode cc pc = .ok (.putfield index, 3)) {fin : Bool} (hf : FL own index ci k fin) (hfin : fin = true → (xh X).name = "<init>" ∧ ∃ r, vwCl[ci]? = some r ∧ (r.2.1 k).1 = own) (ht : gT g a = ci + 1) (hn : narrow (tyC ci k) (.long x) = .long x) (hfit : fits (tyC ci k) (.long x) = true) (hv : vk (tyC ci k) (sL h a k x) a k = .long x) (kk : J X g (sL h a k x) (pc + 3) lv st) : J X g h pc lv (.long x :: va_rf (some a) :: st) := by
  intro H locs ls st' d0 a1 a2 a3 a4 b0
  obtain ⟨w1, s2, rfl, e1, b1⟩ := mc1 b0
  obtain ⟨w2, s3, rfl, e2, b2⟩ := mc1 b1
  cases cn_l e1; cases cn_q e2
  exact J_putx F hd hf hfin ht hn hfit hv (vk_sL h a k x) kk a1 a2 a3 a4 b2
theorem J_putD {x : UInt64} (F : Fx X cc own) (hd : decode cc pc = .ok (.putfield index, 3)) {fin : Bool} (hf : FL own index ci k fin) (hfin : fin = true → (xh X).name = "<init>" ∧ ∃ r, vwCl[ci]? = some r ∧ (r.2.1 k).1 = own) (ht : gT g a = ci + 1) (hty : tyC ci k = .double) (kk : J X g (sD h a k x) (pc + 3) lv st) : J X g h pc lv (.double x :: va_rf (some a) :: st) := by
  intro H locs ls st' d0 a1 a2 a3 a4 b0
  obtain ⟨w1, s2, rfl, e1, b1⟩ := mc1 b0
  obtain ⟨w2, s3, rfl, e2, b2⟩ := mc1 b1
  obtain ⟨u, rfl, rfl⟩ := cn_d e1; cases cn_q e2
  exact J_putx F hd hf hfin ht (by rw [hty]; rfl) (by rw [hty]; rfl) (by rw [hty]; simp [vk, hD, sD, up2, cn]) (vk_sD h a k _) kk a1 a2 a3 a4 b2
theorem J_putR {x : Option Nat} (F : Fx X cc own) (hd : decode cc pc = .ok (.putfield index, 3)) {fin : Bool} (hf : FL own index ci k fin) (hfin : fin = true → (xh X).name = "<init>" ∧ ∃ r, vwCl[ci]? = some r ∧ (r.2.1 k).1 = own) (ht : gT g a = ci + 1) (hty : (∃ n, tyC ci k = .object n) ∨ ∃ n, tyC ci k = .array n) (kk : J X g (sR h a k x) (pc + 3) lv st) : J X g h pc lv (va_rf x :: va_rf (some a) :: st) := by
  intro H locs ls st' d0 a1 a2 a3 a4 b0
  obtain ⟨w1, s2, rfl, e1, b1⟩ := mc1 b0
  obtain ⟨w2, s3, rfl, e2, b2⟩ := mc1 b1
  cases cn_q e1; cases cn_q e2
  rcases hty with ⟨n, hty⟩ | ⟨n, hty⟩ <;> exact J_putx F hd hf hfin ht (by rw [hty]; cases x <;> rfl) (by rw [hty]; cases x <;> rfl) (by rw [hty, cn_rf]; simp [vk, hR, sR, up2]) (vk_sR h a k _) kk a1 a2 a3 a4 b2
theorem tys_at {AK : Nat → ClassId} {t : Nat} {ty : FieldType} (h : atys[t]? = some ty) : (tysAll AK)[t]? = some (AK t, ty) := by
  have hl : t < 9 := (List.getElem?_eq_some_iff.mp h).1
  simp only [tysAll, List.getElem?_map, List.getElem?_range hl, Option.map_some, List.getD_eq_getElem?_getD, h, Option.getD_some]
theorem J_alen {t : Nat} {ty : FieldType} (F : Fx X cc own) (hd : decode cc pc = .ok (.arraylength, 1)) (ht : gT g a = t + 20) (hc : atys[t]? = some ty) (kk : J X g h (pc + 1) lv (.int (Int32.ofNat (gL g a)) :: st)) : J X g h pc lv (va_rf (some a) :: st) := by
  intro H locs ls st' d0 a1 a2 a3 a4 b0
  obtain ⟨w1, s2, rfl, e1, b1⟩ := mc1 b0
  cases cn_q e1
  obtain ⟨f, h1, h2⟩ := Im_arr a2 ht hc
  exact W.alen (s := (xs X).setDrawn d0) (n := Int32.ofNat (gL g a)) F.1 F.2.1 h1 ((F.2.2.2.2.2.1.2 t _ (tys_at hc)).1 _ f) (by rw [arrV_size]) rfl rfl hd (kk H locs ls _ d0 a1 a2 a3 a4 (by rw [List.map_cons, b1]; rfl))
theorem J_iaload {i : Int32} (F : Fx X cc own) (hd : decode cc pc = .ok (.iaload, 1)) (ht : gT g a = 0 + 20) (hin : vp_in i (gL g a)) (kk : J X g h (pc + 1) lv (.int (hI h a i.toNatClampNeg) :: st)) : J X g h pc lv (.int i :: va_rf (some a) :: st) := by
  intro H locs ls st' d0 a1 a2 a3 a4 b0
  obtain ⟨w1, s2, rfl, e1, b1⟩ := mc1 b0
  obtain ⟨w2, s3, rfl, e2, b2⟩ := mc1 b1
  cases cn_i e1; cases cn_q e2
  obtain ⟨f, h1, h2⟩ := Im_arr (ty := .int) a2 ht rfl
  have hlt : i.toNatClampNeg < gL g a := Nat.not_le.mp fun q => hin (Or.inr q)
  exact W.iald (s := (xs X).setDrawn d0) (v := f i.toNatClampNeg) F.1 F.2.1 h1 ((F.2.2.2.2.2.1.2 0 _ (tys_at rfl)).1 _ f) (fun q => by cases q) (by rw [arrV_size]; exact hin) (arrV_read _ _ hlt) rfl rfl hd (kk H locs ls _ d0 a1 a2 a3 a4 (by rw [List.map_cons, b2, h2 _ hlt]; rfl))
theorem J_laload {i : Int32} (F : Fx X cc own) (hd : decode cc pc = .ok (.laload, 1)) (ht : gT g a = 1 + 20) (hin : vp_in i (gL g a)) (kk : J X g h (pc + 1) lv (.long (hL h a i.toNatClampNeg) :: st)) : J X g h pc lv (.int i :: va_rf (some a) :: st) := by
  intro H locs ls st' d0 a1 a2 a3 a4 b0
  obtain ⟨w1, s2, rfl, e1, b1⟩ := mc1 b0
  obtain ⟨w2, s3, rfl, e2, b2⟩ := mc1 b1
  cases cn_i e1; cases cn_q e2
  obtain ⟨f, h1, h2⟩ := Im_arr (ty := .long) a2 ht rfl
  have hlt : i.toNatClampNeg < gL g a := Nat.not_le.mp fun q => hin (Or.inr q)
  exact W.lald (s := (xs X).setDrawn d0) (v := f i.toNatClampNeg) F.1 F.2.1 h1 ((F.2.2.2.2.2.1.2 1 _ (tys_at rfl)).1 _ f) (fun q => by cases q) (by rw [arrV_size]; exact hin) (arrV_read _ _ hlt) rfl rfl hd (kk H locs ls _ d0 a1 a2 a3 a4 (by rw [List.map_cons, b2, h2 _ hlt]; rfl))
theorem J_daload {i : Int32} (F : Fx X cc own) (hd : decode cc pc = .ok (.daload, 1)) (ht : gT g a = 2 + 20) (hin : vp_in i (gL g a)) (kk : J X g h (pc + 1) lv (.double (hD h a i.toNatClampNeg) :: st)) : J X g h pc lv (.int i :: va_rf (some a) :: st) := by
  intro H locs ls st' d0 a1 a2 a3 a4 b0
  obtain ⟨w1, s2, rfl, e1, b1⟩ := mc1 b0
  obtain ⟨w2, s3, rfl, e2, b2⟩ := mc1 b1
  cases cn_i e1; cases cn_q e2
  obtain ⟨f, h1, h2⟩ := Im_arr (ty := .double) a2 ht rfl
  have hlt : i.toNatClampNeg < gL g a := Nat.not_le.mp fun q => hin (Or.inr q)
  exact W.dald (s := (xs X).setDrawn d0) (v := f i.toNatClampNeg) F.1 F.2.1 h1 ((F.2.2.2.2.2.1.2 2 _ (tys_at rfl)).1 _ f) (fun q => by cases q) (by rw [arrV_size]; exact hin) (arrV_read _ _ hlt) rfl rfl hd (kk H locs ls _ d0 a1 a2 a3 a4 (by rw [List.map_cons, b2, h2 _ hlt]; rfl))
theorem J_baload {i : Int32} (F : Fx X cc own) (hd : decode cc pc = .ok (.baload, 1)) (ht : gT g a = 3 + 20) (hin : vp_in i (gL g a)) (kk : J X g h (pc + 1) lv (.int (hI h a i.toNatClampNeg) :: st)) : J X g h pc lv (.int i :: va_rf (some a) :: st) := by
  intro H locs ls st' d0 a1 a2 a3 a4 b0
  obtain ⟨w1, s2, rfl, e1, b1⟩ := mc1 b0
  obtain ⟨w2, s3, rfl, e2, b2⟩ := mc1 b1
  cases cn_i e1; cases cn_q e2
  obtain ⟨f, h1, h2⟩ := Im_arr (ty := .byte) a2 ht rfl
  have hlt : i.toNatClampNeg < gL g a := Nat.not_le.mp fun q => hin (Or.inr q)
  exact W.bald (s := (xs X).setDrawn d0) (v := f i.toNatClampNeg) F.1 F.2.1 h1 ((F.2.2.2.2.2.1.2 3 _ (tys_at rfl)).1 _ f) (fun q => by cases q) (by rw [arrV_size]; exact hin) (arrV_read _ _ hlt) rfl rfl hd (kk H locs ls _ d0 a1 a2 a3 a4 (by rw [List.map_cons, b2, h2 _ hlt]; rfl))
theorem J_zaload {i : Int32} (F : Fx X cc own) (hd : decode cc pc = .ok (.baload, 1)) (ht : gT g a = 4 + 20) (hin : vp_in i (gL g a)) (kk : J X g h (pc + 1) lv (.int (hI h a i.toNatClampNeg) :: st)) : J X g h pc lv (.int i :: va_rf (some a) :: st) := by
  intro H locs ls st' d0 a1 a2 a3 a4 b0
  obtain ⟨w1, s2, rfl, e1, b1⟩ := mc1 b0
  obtain ⟨w2, s3, rfl, e2, b2⟩ := mc1 b1
  cases cn_i e1; cases cn_q e2
  obtain ⟨f, h1, h2⟩ := Im_arr (ty := .boolean) a2 ht rfl
  have hlt : i.toNatClampNeg < gL g a := Nat.not_le.mp fun q => hin (Or.inr q)
  exact W.zald (s := (xs X).setDrawn d0) (v := f i.toNatClampNeg) F.1 F.2.1 h1 ((F.2.2.2.2.2.1.2 4 _ (tys_at rfl)).1 _ f) (fun q => by cases q) (by rw [arrV_size]; exact hin) (arrV_read _ _ hlt) rfl rfl hd (kk H locs ls _ d0 a1 a2 a3 a4 (by rw [List.map_cons, b2, h2 _ hlt]; rfl))
theorem J_aaload {i : Int32} {t : Nat} {C : String} (F : Fx X cc own) (hd : decode cc pc = .ok (.aaload, 1)) (ht : gT g a = t + 20) (hc : atys[t]? = some (.object C)) (hin : vp_in i (gL g a)) (kk : J X g h (pc + 1) lv (va_rf (hR h a i.toNatClampNeg) :: st)) : J X g h pc lv (.int i :: va_rf (some a) :: st) := by
  intro H locs ls st' d0 a1 a2 a3 a4 b0
  obtain ⟨w1, s2, rfl, e1, b1⟩ := mc1 b0
  obtain ⟨w2, s3, rfl, e2, b2⟩ := mc1 b1
  cases cn_i e1; cases cn_q e2
  obtain ⟨f, h1, h2⟩ := Im_arr a2 ht hc
  have hlt : i.toNatClampNeg < gL g a := Nat.not_le.mp fun q => hin (Or.inr q)
  exact W.aald (s := (xs X).setDrawn d0) (ty := .object C) (v := f i.toNatClampNeg) F.1 F.2.1 h1 ((F.2.2.2.2.2.1.2 t _ (tys_at hc)).1 _ f) rfl (fun q => by cases q) (by rw [arrV_size]; exact hin) (arrV_read _ _ hlt) rfl rfl hd (kk H locs ls _ d0 a1 a2 a3 a4 (by rw [List.map_cons, b2, h2 _ hlt]; rfl))
theorem J_iastore {i : Int32} {x : Int32} (F : Fx X cc own) (hd : decode cc pc = .ok (.iastore, 1)) (ht : gT g a = 0 + 20) (hin : vp_in i (gL g a)) (kk : J X g (sI h a i.toNatClampNeg (x)) (pc + 1) lv st) : J X g h pc lv (.int x :: .int i :: va_rf (some a) :: st) := by
  intro H locs ls st' d0 a1 a2 a3 a4 b0
  obtain ⟨w1, s2, rfl, e1, b1⟩ := mc1 b0
  obtain ⟨w2, s3, rfl, e2, b2⟩ := mc1 b1
  obtain ⟨w3, s4, rfl, e3, b3⟩ := mc1 b2
  cases cn_i e1; cases cn_i e2; cases cn_q e3
  obtain ⟨f, h1, h2⟩ := Im_arr (ty := .int) a2 ht rfl
  refine W.iast (s := (xs X).setDrawn d0) F.1 F.2.1 h1 ((F.2.2.2.2.2.1.2 0 _ (tys_at rfl)).1 _ f) (fun q => by cases q) (by rw [arrV_size]; exact hin) rfl rfl hd fun H1 c1 c2 c3 => ?_
  exact kk H1 _ ls _ d0 a1 (Im_ast a2 ht rfl h2 c1 c2 c3 (by simp [vk, hI, sI, up2, cn, vp_nar, narrow]) (vk_sI h a _ _)) (a3.put c2 c3 ((a2.2 a).1 (by omega))) a4 b3
theorem J_lastore {i : Int32} {x : Int64} (F : Fx X cc own) (hd : decode cc pc = .ok (.lastore, 1)) (ht : gT g a = 1 + 20) (hin : vp_in i (gL g a)) (kk : J X g (sL h a i.toNatClampNeg (x)) (pc + 1) lv st) : J X g h pc lv (.long x :: .int i :: va_rf (some a) :: st) := by
  intro H locs ls st' d0 a1 a2 a3 a4 b0
  obtain ⟨w1, s2, rfl, e1, b1⟩ := mc1 b0
  obtain ⟨w2, s3, rfl, e2, b2⟩ := mc1 b1
  obtain ⟨w3, s4, rfl, e3, b3⟩ := mc1 b2
  cases cn_l e1; cases cn_i e2; cases cn_q e3
  obtain ⟨f, h1, h2⟩ := Im_arr (ty := .long) a2 ht rfl
  refine W.last (s := (xs X).setDrawn d0) F.1 F.2.1 h1 ((F.2.2.2.2.2.1.2 1 _ (tys_at rfl)).1 _ f) (fun q => by cases q) (by rw [arrV_size]; exact hin) rfl rfl hd fun H1 c1 c2 c3 => ?_
  exact kk H1 _ ls _ d0 a1 (Im_ast a2 ht rfl h2 c1 c2 c3 (by simp [vk, hL, sL, up2, cn, vp_nar, narrow]) (vk_sL h a _ _)) (a3.put c2 c3 ((a2.2 a).1 (by omega))) a4 b3
theorem J_bastore {i : Int32} {x : Int32} (F : Fx X cc own) (hd : decode cc pc = .ok (.bastore, 1)) (ht : gT g a = 3 + 20) (hin : vp_in i (gL g a)) (kk : J X g (sI h a i.toNatClampNeg (vp_nar .byte x)) (pc + 1) lv st) : J X g h pc lv (.int x :: .int i :: va_rf (some a) :: st) := by
  intro H locs ls st' d0 a1 a2 a3 a4 b0
  obtain ⟨w1, s2, rfl, e1, b1⟩ := mc1 b0
  obtain ⟨w2, s3, rfl, e2, b2⟩ := mc1 b1
  obtain ⟨w3, s4, rfl, e3, b3⟩ := mc1 b2
  cases cn_i e1; cases cn_i e2; cases cn_q e3
  obtain ⟨f, h1, h2⟩ := Im_arr (ty := .byte) a2 ht rfl
  refine W.bast (s := (xs X).setDrawn d0) F.1 F.2.1 h1 ((F.2.2.2.2.2.1.2 3 _ (tys_at rfl)).1 _ f) (fun q => by cases q) (by rw [arrV_size]; exact hin) rfl rfl hd fun H1 c1 c2 c3 => ?_
  exact kk H1 _ ls _ d0 a1 (Im_ast a2 ht rfl h2 c1 c2 c3 (by simp [vk, hI, sI, up2, cn, vp_nar, narrow]) (vk_sI h a _ _)) (a3.put c2 c3 ((a2.2 a).1 (by omega))) a4 b3
theorem J_zastore {i : Int32} {x : Int32} (F : Fx X cc own) (hd : decode cc pc = .ok (.bastore, 1)) (ht : gT g a = 4 + 20) (hin : vp_in i (gL g a)) (kk : J X g (sI h a i.toNatClampNeg (vp_nar .boolean x)) (pc + 1) lv st) : J X g h pc lv (.int x :: .int i :: va_rf (some a) :: st) := by
  intro H locs ls st' d0 a1 a2 a3 a4 b0
  obtain ⟨w1, s2, rfl, e1, b1⟩ := mc1 b0
  obtain ⟨w2, s3, rfl, e2, b2⟩ := mc1 b1
  obtain ⟨w3, s4, rfl, e3, b3⟩ := mc1 b2
  cases cn_i e1; cases cn_i e2; cases cn_q e3
  obtain ⟨f, h1, h2⟩ := Im_arr (ty := .boolean) a2 ht rfl
  refine W.zast (s := (xs X).setDrawn d0) F.1 F.2.1 h1 ((F.2.2.2.2.2.1.2 4 _ (tys_at rfl)).1 _ f) (fun q => by cases q) (by rw [arrV_size]; exact hin) rfl rfl hd fun H1 c1 c2 c3 => ?_
  exact kk H1 _ ls _ d0 a1 (Im_ast a2 ht rfl h2 c1 c2 c3 (by simp [vk, hI, sI, up2, cn, vp_nar, narrow]) (vk_sI h a _ _)) (a3.put c2 c3 ((a2.2 a).1 (by omega))) a4 b3
theorem J_dastore {i : Int32} {x : UInt64} (F : Fx X cc own) (hd : decode cc pc = .ok (.dastore, 1)) (ht : gT g a = 2 + 20) (hin : vp_in i (gL g a)) (kk : J X g (sD h a i.toNatClampNeg x) (pc + 1) lv st) : J X g h pc lv (.double x :: .int i :: va_rf (some a) :: st) := by
  intro H locs ls st' d0 a1 a2 a3 a4 b0
  obtain ⟨w1, s2, rfl, e1, b1⟩ := mc1 b0
  obtain ⟨w2, s3, rfl, e2, b2⟩ := mc1 b1
  obtain ⟨w3, s4, rfl, e3, b3⟩ := mc1 b2
  obtain ⟨u, rfl, rfl⟩ := cn_d e1; cases cn_i e2; cases cn_q e3
  obtain ⟨f, h1, h2⟩ := Im_arr (ty := .double) a2 ht rfl
  refine W.dast (s := (xs X).setDrawn d0) F.1 F.2.1 h1 ((F.2.2.2.2.2.1.2 2 _ (tys_at rfl)).1 _ f) (fun q => by cases q) (by rw [arrV_size]; exact hin) rfl rfl hd fun H1 c1 c2 c3 => ?_
  exact kk H1 _ ls _ d0 a1 (Im_ast a2 ht rfl h2 c1 c2 c3 (by simp [vk, hD, sD, up2, cn]) (vk_sD h a _ _)) (a3.put c2 c3 ((a2.2 a).1 (by omega))) a4 b3
theorem J_aastore {i : Int32} {t ci v : Nat} {r : vw_C} (F : Fx X cc own) (hd : decode cc pc = .ok (.aastore, 1)) (ht : gT g a = t + 20) (hc : atys[t]? = some (.object r.1)) (hr : vwCl[ci]? = some r) (hv : gT g v = ci + 1) (hin : vp_in i (gL g a)) (kk : J X g (sR h a i.toNatClampNeg (some v)) (pc + 1) lv st) : J X g h pc lv (va_rf (some v) :: .int i :: va_rf (some a) :: st) := by
  intro H locs ls st' d0 a1 a2 a3 a4 b0
  obtain ⟨w1, s2, rfl, e1, b1⟩ := mc1 b0
  obtain ⟨w2, s3, rfl, e2, b2⟩ := mc1 b1
  obtain ⟨w3, s4, rfl, e3, b3⟩ := mc1 b2
  cases cn_q e1; cases cn_i e2; cases cn_q e3
  obtain ⟨f, h1, h2⟩ := Im_arr a2 ht hc
  obtain ⟨cellV, V, g1, g2, g3, -⟩ := Im_obj a2 hv hr
  have hlt : i.toNatClampNeg < gL g a := Nat.not_le.mp fun q => hin (Or.inr q)
  have h0 : ¬ i < 0 := fun q => hin (Or.inl q)
  have hcls := (F.2.2.2.2.2.1.1 ci r hr).2
  obtain ⟨kA, comp, k1, k2, k3, -⟩ := (F.2.2.2.2.2.1.2 t _ (tys_at hc)).2
  have hcomp : comp = (xD X).1 ci := Option.some.inj (k3.symm.trans hcls.1)
  subst hcomp
  obtain ⟨kC, hkC, -⟩ := hcls.2
  refine W.aast (s := (xs X).setDrawn d0) F.1 F.2.1 h1 (fun q h => by cases h) (fun h => by cases h) k1 k2 rfl hkC ⟨h0, by rw [arrV_size]; exact hlt⟩ g1 (fun q h => by rw [g3] at h; cases h) (by rw [g2]; exact hkC) (by rw [g2]; exact va_assign hcls) rfl rfl hd fun H1 c1 c2 c3 => ?_
  exact kk H1 _ ls _ d0 a1 (Im_ast a2 ht hc h2 c1 c2 c3 (by simp [vk, hR, sR, up2, cn, va_rf]) (vk_sR h a _ _)) (a3.put c2 c3 ((a2.2 a).1 (by omega))) a4 b3
theorem J_aastoreN {i : Int32} {t : Nat} {C : String} (F : Fx X cc own) (hd : decode cc pc = .ok (.aastore, 1)) (ht : gT g a = t + 20) (hc : atys[t]? = some (.object C)) (hin : vp_in i (gL g a)) (kk : J X g (sR h a i.toNatClampNeg none) (pc + 1) lv st) : J X g h pc lv (va_rf none :: .int i :: va_rf (some a) :: st) := by
  intro H locs ls st' d0 a1 a2 a3 a4 b0
  obtain ⟨w1, s2, rfl, e1, b1⟩ := mc1 b0
  obtain ⟨w2, s3, rfl, e2, b2⟩ := mc1 b1
  obtain ⟨w3, s4, rfl, e3, b3⟩ := mc1 b2
  cases cn_q e1; cases cn_i e2; cases cn_q e3
  obtain ⟨f, h1, h2⟩ := Im_arr a2 ht hc
  refine va_WaastN (s := (xs X).setDrawn d0) F.1 F.2.1 h1 ((F.2.2.2.2.2.1.2 t _ (tys_at hc)).1 _ f) (fun q => by cases q) (by rw [arrV_size]; exact hin) rfl rfl hd fun H1 c1 c2 c3 => ?_
  exact kk H1 _ ls _ d0 a1 (Im_ast a2 ht hc h2 c1 c2 c3 (by simp [vk, hR, sR, up2, cn, va_rf]) (vk_sR h a _ _)) (a3.put c2 c3 ((a2.2 a).1 (by omega))) a4 b3
end JP
-- new cells
def up1 {α : Type} (f : Nat → α) (a : Nat) (x : α) : Nat → α := fun b => if b = a then x else f b
/-- a cell more, of this tag and this length -/
def gA (g : MT) (t n : Nat) : MT := (up1 g.1 (gN g) t, up1 g.2.1 (gN g) n, gN g + 1, gU g + n)
/-- what a new cell holds -/
def hZ (h : CT) (a : Nat) : CT := (up1 h.1 a (fun _ => 0), up1 h.2.1 a (fun _ => 0), up1 h.2.2.1 a (fun _ => 0), up1 h.2.2.2 a (fun _ => none))
theorem vk_hZ (h : CT) (a : Nat) (ty : FieldType) (b j : Nat) (hn : b ≠ a) : vk ty (hZ h a) b j = vk ty h b j := by cases ty <;> simp [vk, hI, hL, hD, hR, hZ, up1, hn]
theorem vk_hZ0 (h : CT) (a : Nat) (ty : FieldType) (j : Nat) (hf : ty ≠ .float) : vk ty (hZ h a) a j = cn (defaultValue ty) := by
  cases ty <;> first | exact absurd rfl hf | simp [vk, hI, hL, hD, hR, hZ, up1, cn, defaultValue, va_rf] <;> decide +kernel
theorem no_fl (ci : Nat) (k : Nat) : tyC ci k ≠ .float := by
  match ci with
  | 0 => show tyX1 k ≠ _; unfold tyX1; split <;> decide
  | 1 => show tyX2 k ≠ _; unfold tyX2; split <;> decide
  | 2 => show tyX3 k ≠ _; unfold tyX3; split <;> decide
  | 3 => show tyX4 k ≠ _; unfold tyX4; split <;> decide
  | 4 => show tyX6 k ≠ _; unfold tyX6; split <;> decide
  | 5 => show tyX7 k ≠ _; unfold tyX7; split <;> decide
  | 6 => show tyX8 k ≠ _; unfold tyX8; split <;> decide
  | 7 => show tyX9 k ≠ _; unfold tyX9; split <;> decide
  | 8 => show tyX10 k ≠ _; unfold tyX10; split <;> decide
  | 9 => show tyX11 k ≠ _; unfold tyX11; split <;> decide
  | 10 => show tyX12 k ≠ _; unfold tyX12; split <;> decide
  | n + 11 => show tyX13 k ≠ _; unfold tyX13; split <;> decide
section IN
variable {B : Nat} {D : va_G} {AK : Nat → ClassId} {g : MT} {h : CT} {H H' : Heap}
theorem Im_low (I : Img B D AK g h H) {b cj : Nat} (hj : gT g b = cj + 1) (hj2 : cj < 12) : b < H.size := by
  obtain ⟨r', V', h1, ⟨cell, q1, -⟩, -⟩ := (I.2 b).2.1 cj hj hj2
  exact (Array.getElem?_eq_some_iff.mp q1).1
theorem Im_lowA (I : Img B D AK g h H) {b t : Nat} {ty : FieldType} (hj : gT g b = t + 20) (hc : atys[t]? = some ty) : b < H.size := by
  obtain ⟨F, h1, -⟩ := (I.2 b).2.2 t ty hj hc
  exact (Array.getElem?_eq_some_iff.mp h1).1
theorem Im_new {ci : Nat} {r : vw_C} (I : Img B D AK g h H) (hB : B ≤ H.size) (hc : vwCl[ci]? = some r) (e2 : H'.size = H.size + 1) (e3 : ∀ q, q < H.size → H'[q]? = H[q]?) (e1 : t_OB H.size (D.1 ci) r.2.2 (D.2 ci) H' (fun k => defaultValue (tyC ci k))) : Img B D AK (gA g (ci + 1) r.2.2) (hZ h (gN g)) H' := by
  have hN : H.size = gN g := I.1
  rw [hN] at hB e1 e2 e3
  refine ⟨e2, fun b => ?_⟩
  by_cases hb : b = gN g
  · subst hb
    refine ⟨fun _ => hB, fun cj hj hj2 => ?_, fun t ty hj ht => ?_⟩
    · have : cj = ci := by simp [gT, gA, up1] at hj; omega
      subst this
      exact ⟨r, _, hc, e1, fun k hk => (vk_hZ0 h _ _ k (no_fl _ _)).symm⟩
    · have := im_12 hc
      simp [gT, gA, up1] at hj
      omega
  · have hg : gT (gA g (ci + 1) r.2.2) b = gT g b := by simp [gT, gA, up1, hb]
    have hl : gL (gA g (ci + 1) r.2.2) b = gL g b := by simp [gL, gA, up1, hb]
    refine ⟨fun q => (I.2 b).1 (by rw [← hg]; exact q), fun cj hj hj2 => ?_, fun t ty hj ht => ?_⟩
    · rw [hg] at hj
      have hlow := Im_low I hj hj2
      obtain ⟨r', V', h1, h2, h3⟩ := (I.2 b).2.1 cj hj hj2
      exact ⟨r', V', h1, h2.kept (e3 b (by omega)), fun k hk => by rw [vk_hZ _ _ _ _ _ hb]; exact h3 k hk⟩
    · rw [hg] at hj
      have hlow := Im_lowA I hj ht
      obtain ⟨F, h1, h2⟩ := (I.2 b).2.2 t ty hj ht
      rw [hl]
      exact ⟨F, (e3 b (by omega)).trans h1, fun k hk => by rw [vk_hZ _ _ _ _ _ hb]; exact h2 k hk⟩
theorem Im_newa {t n : Nat} {ty : FieldType} (I : Img B D AK g h H) (hB : B ≤ H.size) (hc : atys[t]? = some ty) (hf : ty ≠ .float) (e2 : H'.size = H.size + 1) (e3 : ∀ q, q < H.size → H'[q]? = H[q]?) (e1 : H'[H.size]? = some (arrV (AK t) n (fun _ => defaultValue ty))) : Img B D AK (gA g (t + 20) n) (hZ h (gN g)) H' := by
  have hN : H.size = gN g := I.1
  rw [hN] at hB e1 e2 e3
  refine ⟨e2, fun b => ?_⟩
  by_cases hb : b = gN g
  · subst hb
    refine ⟨fun _ => hB, fun cj hj hj2 => ?_, fun t2 ty2 hj ht => ?_⟩
    · simp [gT, gA, up1] at hj; omega
    · have : t2 = t := by simp [gT, gA, up1] at hj; omega
      subst this
      cases hc.symm.trans ht
      have hl : gL (gA g (t2 + 20) n) (gN g) = n := by simp [gL, gA, up1]
      rw [hl]
      exact ⟨_, e1, fun k hk => (vk_hZ0 h _ _ k hf).symm⟩
  · have hg : gT (gA g (t + 20) n) b = gT g b := by simp [gT, gA, up1, hb]
    have hl : gL (gA g (t + 20) n) b = gL g b := by simp [gL, gA, up1, hb]
    refine ⟨fun q => (I.2 b).1 (by rw [← hg]; exact q), fun cj hj hj2 => ?_, fun t2 ty2 hj ht => ?_⟩
    · rw [hg] at hj
      have hlow := Im_low I hj hj2
      obtain ⟨r', V', h1, h2, h3⟩ := (I.2 b).2.1 cj hj hj2
      exact ⟨r', V', h1, h2.kept (e3 b (by omega)), fun k hk => by rw [vk_hZ _ _ _ _ _ hb]; exact h3 k hk⟩
    · rw [hg] at hj
      have hlow := Im_lowA I hj ht
      obtain ⟨F, h1, h2⟩ := (I.2 b).2.2 t2 ty2 hj ht
      rw [hl]
      exact ⟨F, (e3 b (by omega)).trans h1, fun k hk => by rw [vk_hZ _ _ _ _ _ hb]; exact h2 k hk⟩
end IN
/-- the room that is left -/
def RM (X : Cx) (g : MT) : Prop := gN g ≤ xN X + (xR X).cells ∧ gU g ≤ xU X + (xR X).slots ∧ xN X ≤ gN g ∧ xU X ≤ gU g
section JN
variable {X : Cx} {cc : ByteArray} {own : String} {g : MT} {h : CT} {pc : Nat} {lv : List (Nat × Value)} {st : List Value} {ci index : Nat}
theorem J_new {r : vw_C} (F : Fx X cc own) (hd : decode cc pc = .ok (.new index, 3)) (hr : vwCl[ci]? = some r) (w1 : Cond.classLink own index r.1 ∈ lw_G) (w2 : Cond.instantiable r.1 r.2.2 ∈ lw_G) (w3 : Cond.initialized r.1 ∈ lw_G) (M0 : RM X g) (M : RM X (gA g (ci + 1) r.2.2)) (kk : J X (gA g (ci + 1) r.2.2) (hZ h (gN g)) (pc + 3) lv (va_rf (some (gN g)) :: st)) : J X g h pc lv st := by
  intro H locs ls st' d0 a1 a2 a3 a4 b0
  have hts := F.2.2.2.2.1
  obtain ⟨hin, hty, hnm⟩ := im_all hr
  have hKn := F.2.2.2.2.2.1.1 ci _ hr
  have hN := a2.1
  obtain ⟨m1, m2, m3, m4⟩ := M0
  obtain ⟨n1, n2, -, -⟩ := M
  simp only [gA, gN, gU] at n1 n2 m1 m2 m3 m4 hN
  have hB : xB X ≤ H.size := Nat.le_trans F.2.2.2.2.2.2.1 a3.1
  refine W.newcK (s := (xs X).setDrawn d0) F.1 F.2.1 F.2.2.2.1 (dr_words hts d0 _ w1) (dr_words hts d0 _ w2) (dr_words hts d0 _ w3) rfl hd (by simp only [gN]; omega) (by simp only [gU]; omega) hKn.2.1 rfl fun H1 kC hkC e1 z1 o1 => ?_
  have hob := u_born (args := xa X) (s := xs X) (tyC ci) hts hin hKn hkC e1 hty
  have k2 := kk H1 locs ls (.ref (gN g) :: st') d0 a1 (Im_new a2 hB hr z1 o1 hob) ⟨by have := a3.1; omega, fun x h1 h2 => (o1 x (Nat.lt_of_lt_of_le h1 a3.1)).trans (a3.2.1 x h1 h2), a3.2.2⟩ a4 (by rw [List.map_cons, b0]; rfl)
  have c1 : gN (gA g (ci + 1) r.2.2) - xN X = gN g - xN X + 1 := by simp only [gA, gN]; omega
  have c2 : gU (gA g (ci + 1) r.2.2) - xU X = gU g - xU X + r.2.2 := by simp only [gA, gU]; omega
  rw [c1, c2] at k2
  have hN' : H.size = gN g := a2.1
  rw [hN']
  exact k2
theorem J_newa {t N : Nat} {ty : FieldType} {n : Int32} (atype : ArrayType) (F : Fx X cc own) (hd : decode cc pc = .ok (.newarray atype, 2)) (hty : newarray.typeOf atype = ty) (hc : atys[t]? = some ty) (hf : ty ≠ .float) (hno : ∀ C, ty ≠ .object C) (w1 : Cond.arrayClass ty ∈ lw_G) (hn : ¬ n < 0) (hN : n.toNatClampNeg = N) (hb : N * componentBytes ty ≤ 536870912) (M0 : RM X g) (M : RM X (gA g (t + 20) N)) (kk : J X (gA g (t + 20) N) (hZ h (gN g)) (pc + 2) lv (va_rf (some (gN g)) :: st)) : J X g h pc lv (.int n :: st) := by
  intro H locs ls st' d0 a1 a2 a3 a4 b0
  obtain ⟨w2, s2, rfl, e1, b1⟩ := mc1 b0
  cases cn_i e1
  subst hty
  have hts := F.2.2.2.2.1
  have hNN := a2.1
  obtain ⟨m1, m2, m3, m4⟩ := M0
  obtain ⟨n1, n2, -, -⟩ := M
  simp only [gA, gN, gU] at n1 n2 m1 m2 m3 m4 hNN
  have hB : xB X ≤ H.size := Nat.le_trans F.2.2.2.2.2.2.1 a3.1
  refine va_newaK (s := (xs X).setDrawn d0) F.1 F.2.1 (atype := atype) (dr_words hts d0 _ w1) rfl hd rfl hn hN hb (by simp only [gN]; omega) (by simp only [gU]; omega) rfl fun H1 cA e1 z1 o1 hAr hNm => ?_
  have hRA := (F.2.2.2.2.2.1.2 t _ (tys_at hc)).2
  have hcA : cA = (xK X) t := by
    have h2 : (xs X).vm.findClass ("[" ++ (newarray.typeOf atype).toString) = some ((xK X) t) := by
      cases atype <;> exact hRA
    exact Option.some.inj (hNm.symm.trans h2)
  subst hcA
  have k2 := kk H1 locs ls (.ref (gN g) :: s2) d0 a1 (Im_newa a2 hB hc hf z1 o1 e1) ⟨by have := a3.1; omega, fun x h1 h2 => (o1 x (Nat.lt_of_lt_of_le h1 a3.1)).trans (a3.2.1 x h1 h2), a3.2.2⟩ a4 (by rw [List.map_cons, b1]; rfl)
  have c1 : gN (gA g (t + 20) N) - xN X = gN g - xN X + 1 := by simp only [gA, gN]; omega
  have c2 : gU (gA g (t + 20) N) - xU X = gU g - xU X + N := by simp only [gA, gU]; omega
  rw [c1, c2] at k2
  have hN' : H.size = gN g := a2.1
  rw [hN']
  exact k2
end JN
