/-! rows of J that read and write cells -/
theorem im_in {C : String} {T : u_T} {N : Nat} (h : (List.range N).all (fun k => decide (u_lay C T k ∈ lw_tbl) && goodWord (u_lay C T k)) = true) : ∀ w ∈ u_ws C T N, w ∈ lw_G := by
  intro w hw
  obtain ⟨k, hk, rfl⟩ := List.mem_map.mp hw
  have h1 := List.all_eq_true.mp h k hk
  simp only [Bool.and_eq_true, decide_eq_true_eq] at h1
  exact List.mem_filter.mpr h1
def im_ok (ci : Nat) (r : vw_C) : Prop := (∀ w ∈ u_ws r.1 r.2.1 r.2.2, w ∈ lw_G) ∧ (∀ k, k < r.2.2 → parseFieldDescriptor (r.2.1 k).2.2.1 = some (tyC ci k)) ∧ ∀ a, a < r.2.2 → ∀ b, b < r.2.2 → a ≠ b → (r.2.1 a).2.1 ≠ (r.2.1 b).2.1
theorem im_k0 : im_ok 0 (RX1, TX1, 5) := ⟨im_in (by decide +kernel), tyX1_ok, nmX1⟩
theorem im_k1 : im_ok 1 (RX2, TX2, 10) := ⟨im_in (by decide +kernel), tyX2_ok, nmX2⟩
theorem im_k2 : im_ok 2 (RX3, TX3, 9) := ⟨im_in (by decide +kernel), tyX3_ok, nmX3⟩
theorem im_k3 : im_ok 3 (RX4, TX4, 2) := ⟨im_in (by decide +kernel), tyX4_ok, nmX4⟩
theorem im_k4 : im_ok 4 (RX6, TX6, 12) := ⟨im_in (by decide +kernel), tyX6_ok, nmX6⟩
theorem im_k5 : im_ok 5 (RX7, TX7, 2) := ⟨im_in (by decide +kernel), tyX7_ok, nmX7⟩
theorem im_k6 : im_ok 6 (RX8, TX8, 2) := ⟨im_in (by decide +kernel), tyX8_ok, nmX8⟩
theorem im_k7 : im_ok 7 (RX9, TX9, 11) := ⟨im_in (by decide +kernel), tyX9_ok, nmX9⟩
theorem im_k8 : im_ok 8 (RX10, TX10, 17) := ⟨im_in (by decide +kernel), tyX10_ok, nmX10⟩
theorem im_k9 : im_ok 9 (RX11, TX11, 4) := ⟨im_in (by decide +kernel), tyX11_ok, nmX11⟩
theorem im_k10 : im_ok 10 (RX12, TX12, 20) := ⟨im_in (by decide +kernel), tyX12_ok, nmX12⟩
theorem im_k11 : im_ok 11 (RX13, TX13, 52) := ⟨im_in (by decide +kernel), tyX13_ok, nmX13⟩
theorem im_all {ci : Nat} {r : vw_C} (hc : vwCl[ci]? = some r) : im_ok ci r := by
  match ci, hc with
  | 0, hc => cases hc; exact im_k0
  | 1, hc => cases hc; exact im_k1
  | 2, hc => cases hc; exact im_k2
  | 3, hc => cases hc; exact im_k3
  | 4, hc => cases hc; exact im_k4
  | 5, hc => cases hc; exact im_k5
  | 6, hc => cases hc; exact im_k6
  | 7, hc => cases hc; exact im_k7
  | 8, hc => cases hc; exact im_k8
  | 9, hc => cases hc; exact im_k9
  | 10, hc => cases hc; exact im_k10
  | 11, hc => cases hc; exact im_k11
  | n + 12, hc => simp [vwCl] at hc
theorem im_12 {ci : Nat} {r : vw_C} (hc : vwCl[ci]? = some r) : ci < 12 := (List.getElem?_eq_some_iff.mp hc).1
/-- what the pool's entry 'index' of class own names: field k of the class numbered ci -/
def FL (own : String) (index ci k : Nat) (fin : Bool) : Prop := ∃ r : vw_C, vwCl[ci]? = some r ∧ k < r.2.2 ∧ Cond.fieldLink own index (r.2.1 k).1 (r.2.1 k).2.1 (r.2.1 k).2.2.1 ∈ lw_G ∧ (r.2.1 k).2.2.2 = fin
section IM
variable {B : Nat} {D : va_G} {AK : Nat → ClassId} {g : MT} {h h' : CT} {H H' : Heap} {a ci : Nat} {r : vw_C}
theorem Im_obj (I : Img B D AK g h H) (ht : gT g a = ci + 1) (hc : vwCl[ci]? = some r) : ∃ (cell : Cell) (V : Nat → Value), H[a]? = some cell ∧ cell.cls = D.1 ci ∧ cell.vm = .none ∧ (∀ k, k < r.2.2 → cell.slots[D.2 ci k]? = some (V k)) ∧ ∀ k, k < r.2.2 → cn (V k) = vk (tyC ci k) h a k := by
  obtain ⟨r', V, h1, ⟨cell, q1, q2, q3, q4⟩, h3⟩ := (I.2 a).2.1 ci ht (im_12 hc)
  cases hc.symm.trans h1
  exact ⟨cell, V, q1, q2, q3, q4, h3⟩
theorem Im_arr {t : Nat} {ty : FieldType} (I : Img B D AK g h H) (ht : gT g a = t + 20) (hc : atys[t]? = some ty) : ∃ F : Nat → Value, H[a]? = some (arrV (AK t) (gL g a) F) ∧ ∀ j, j < gL g a → cn (F j) = vk ty h a j := (I.2 a).2.2 t ty ht hc
theorem Im_base (I : Img B D AK g h H) (ht : gT g a = ci + 1) : B ≤ a := (I.2 a).1 (by omega)
/-- one field of an object is written -/
theorem Im_put {k : Nat} {v : Value} {cell : Cell} {V : Nat → Value} (I : Img B D AK g h H) (ht : gT g a = ci + 1) (hc : vwCl[ci]? = some r) (hk : k < r.2.2) (q2 : cell.cls = D.1 ci) (q3 : cell.vm = .none) (q4 : ∀ k, k < r.2.2 → cell.slots[D.2 ci k]? = some (V k)) (q5 : ∀ k, k < r.2.2 → cn (V k) = vk (tyC ci k) h a k)
    (hap : ∀ x y, x < r.2.2 → y < r.2.2 → x ≠ y → (D.2 ci) x ≠ (D.2 ci) y) (e1 : H'[a]? = some (cell.setSlot (D.2 ci k) v)) (e2 : H'.size = H.size) (e3 : ∀ q, q ≠ a → H'[q]? = H[q]?) (w1 : vk (tyC ci k) h' a k = cn v) (w2 : ∀ ty b j, ¬ (b = a ∧ j = k) → vk ty h' b j = vk ty h b j) : Img B D AK g h' H' := by
  refine ⟨e2.trans I.1, fun b => ⟨(I.2 b).1, fun cj hj hj2 => ?_, fun t ty hj ht2 => ?_⟩⟩
  · by_cases hb : b = a
    · subst hb
      have : cj = ci := by omega
      subst this
      refine ⟨r, updV V k v, hc, ⟨_, e1, q2, q3, t_set q4 hap hk v⟩, fun j hj3 => ?_⟩
      by_cases hjk : j = k
      · subst hjk
        simp only [updV, if_true]
        exact w1.symm
      · simp only [updV, hjk, if_false]
        rw [w2 _ _ _ (fun z => hjk z.2)]
        exact q5 j hj3
    · obtain ⟨r', V', h1, h2, h3⟩ := (I.2 b).2.1 cj hj hj2
      refine ⟨r', V', h1, h2.kept (e3 b hb), fun j hj3 => ?_⟩
      rw [w2 _ _ _ (fun z => hb z.1)]
      exact h3 j hj3
  · have hb : b ≠ a := fun z => by subst z; have := im_12 hc; omega
    obtain ⟨F, h1, h2⟩ := (I.2 b).2.2 t ty hj ht2
    refine ⟨F, (e3 b hb).trans h1, fun j hj3 => ?_⟩
    rw [w2 _ _ _ (fun z => hb z.1)]
    exact h2 j hj3
/-- one element of an array is written -/
theorem Im_ast {t k : Nat} {ty : FieldType} {v : Value} {F : Nat → Value} (I : Img B D AK g h H) (ht : gT g a = t + 20) (hc : atys[t]? = some ty) (q5 : ∀ j, j < gL g a → cn (F j) = vk ty h a j)
    (e1 : H'[a]? = some ((arrV (AK t) (gL g a) F).setSlot k v)) (e2 : H'.size = H.size) (e3 : ∀ q, q ≠ a → H'[q]? = H[q]?) (w1 : vk ty h' a k = cn v) (w2 : ∀ ty b j, ¬ (b = a ∧ j = k) → vk ty h' b j = vk ty h b j) : Img B D AK g h' H' := by
  refine ⟨e2.trans I.1, fun b => ⟨(I.2 b).1, fun cj hj hj2 => ?_, fun t2 ty2 hj ht2 => ?_⟩⟩
  · have hb : b ≠ a := fun z => by subst z; omega
    obtain ⟨r', V', h1, h2, h3⟩ := (I.2 b).2.1 cj hj hj2
    refine ⟨r', V', h1, h2.kept (e3 b hb), fun j hj3 => ?_⟩
    rw [w2 _ _ _ (fun z => hb z.1)]
    exact h3 j hj3
  · by_cases hb : b = a
    · subst hb
      have : t2 = t := by omega
      subst this
      cases hc.symm.trans ht2
      refine ⟨updV F k v, by rw [e1, arrV_store], fun j hj3 => ?_⟩
      by_cases hjk : j = k
      · subst hjk
        simp only [updV, if_true]
        exact w1.symm
      · simp only [updV, hjk, if_false]
        rw [w2 _ _ _ (fun z => hjk z.2)]
        exact q5 j hj3
    · obtain ⟨F', h1, h2⟩ := (I.2 b).2.2 t2 ty2 hj ht2
      refine ⟨F', (e3 b hb).trans h1, fun j hj3 => ?_⟩
      rw [w2 _ _ _ (fun z => hb z.1)]
      exact h2 j hj3
theorem vk_sI (h : CT) (a k : Nat) (x : Int32) (ty : FieldType) (b j : Nat) (hn : ¬ (b = a ∧ j = k)) : vk ty (sI h a k x) b j = vk ty h b j := by cases ty <;> simp [vk, hI, hL, hD, hR, sI, up2, hn]
theorem vk_sL (h : CT) (a k : Nat) (x : Int64) (ty : FieldType) (b j : Nat) (hn : ¬ (b = a ∧ j = k)) : vk ty (sL h a k x) b j = vk ty h b j := by cases ty <;> simp [vk, hI, hL, hD, hR, sL, up2, hn]
theorem vk_sD (h : CT) (a k : Nat) (x : UInt64) (ty : FieldType) (b j : Nat) (hn : ¬ (b = a ∧ j = k)) : vk ty (sD h a k x) b j = vk ty h b j := by cases ty <;> simp [vk, hI, hL, hD, hR, sD, up2, hn]
theorem vk_sR (h : CT) (a k : Nat) (x : Option Nat) (ty : FieldType) (b j : Nat) (hn : ¬ (b = a ∧ j = k)) : vk ty (sR h a k x) b j = vk ty h b j := by cases ty <;> simp [vk, hI, hL, hD, hR, sR, up2, hn]
end IM
section JH
variable {X : Cx} {cc : ByteArray} {own : String} {g : MT} {h : CT} {pc : Nat} {lv : List (Nat × Value)} {st : List Value} {a ci index k : Nat}
theorem J_get {v : Value} (F : Fx X cc own) (hd : decode cc pc = .ok (.getfield index, 3)) {fin : Bool} (hf : FL own index ci k fin) (ht : gT g a = ci + 1) (hv : vk (tyC ci k) h a k = v) (kk : J X g h (pc + 3) lv (v :: st)) : J X g h pc lv (va_rf (some a) :: st) := by
  intro H locs ls st' d0 a1 a2 a3 a4 b0
  obtain ⟨w, s2, rfl, e1, b1⟩ := mc1 b0
  cases cn_q e1
  obtain ⟨r, hc, hk, hw, -⟩ := hf
  obtain ⟨cell, V, q1, q2, q3, q4, q5⟩ := Im_obj a2 ht hc
  have hts := F.2.2.2.2.1
  have hin := (im_all hc).1
  obtain ⟨hS, hfc, kC, hkC, hkind⟩ := F.2.2.2.2.2.1.1 ci _ hc
  obtain ⟨cf, kf, fi, f, hi, hsl⟩ := hS k hk
  have hst := (u_facts (args := xa X) hfc hkC (u_lays hts hin hk) hi).1
  have hl := dr_words hts d0 _ hw
  exact W.getf (s := (xs X).setDrawn d0) F.1 F.2.1 F.2.2.2.1 hl hi hst q1 (by rw [q3]; exact fun h => by cases h) (v := V k) (by rw [hsl]; exact q4 k hk) rfl rfl hd
    (kk H locs ls _ d0 a1 a2 a3 a4 (by rw [List.map_cons, b1, q5 k hk, hv]))
theorem J_putx {v' : Value} {h' : CT} (F : Fx X cc own) (hd : decode cc pc = .ok (.putfield index, 3)) {fin : Bool} (hf : FL own index ci k fin) (hfin : fin = true → (xh X).name = "<init>" ∧ ∃ r, vwCl[ci]? = some r ∧ (r.2.1 k).1 = own) (ht : gT g a = ci + 1) (hn : narrow (tyC ci k) v' = v') (hfit : fits (tyC ci k) v' = true)
    (w1 : vk (tyC ci k) h' a k = cn v') (w2 : ∀ ty b j, ¬ (b = a ∧ j = k) → vk ty h' b j = vk ty h b j) (kk : J X g h' (pc + 3) lv st) {H : Heap} {locs : List Loc} {ls : Array Slot} {s2 : List Value} {d0 : Drawn} (a1 : (xs X).drawn.sameBut d0 lw_cs) (a2 : Img (xB X) (xD X) (xK X) g h H) (a3 : va_S (fun q => xB X ≤ q) (xs X).heap H locs) (a4 : lvc ls (xL X) lv) (b1 : s2.map cn = st) :
    W (xp X) (xl X) (xe X) (xR X) ((xs X).setDrawn d0) (xm X) (xa X) (xb X) (xh X) (xc X) H locs (gN g - xN X) (gU g - xU X) (xQ X) (F0 (xm X) pc ls (v' :: .ref a :: s2)) := by
  obtain ⟨r, hc, hk, hw, hfi⟩ := hf
  obtain ⟨cell, V, q1, q2, q3, q4, q5⟩ := Im_obj a2 ht hc
  have hts := F.2.2.2.2.1
  obtain ⟨hin, hty, hnm⟩ := im_all hc
  have hap : ∀ x y, x < r.2.2 → y < r.2.2 → x ≠ y → ((xD X).2 ci) x ≠ ((xD X).2 ci) y := va_apart (own := own) hts hin (tyC ci) hty hnm F.2.2.2.2.2.1 hc
  obtain ⟨hS, hfc, kC, hkC, hkind⟩ := F.2.2.2.2.2.1.1 ci _ hc
  obtain ⟨cf, kf, fi, f, hi, hsl⟩ := hS k hk
  have hlay := hts _ (hin _ (u_in_lay hk))
  have hst := (u_facts (args := xa X) hfc hkC (u_lays hts hin hk) hi).1
  have hl := dr_words hts d0 _ hw
  unfold u_lay at hlay
  cases fin with
  | false =>
    rw [if_neg (by rw [hfi]; decide)] at hlay
    have h6 := u_store hfc hkC hkind hlay hi (hty k hk) hn hfit
    refine W.putK (s := (xs X).setDrawn d0) F.1 F.2.1 (f := f) ⟨F.2.2.2.1, hl, ⟨_, _, _, hi⟩, hst⟩ (by rw [q2]; exact h6) q1 q3 (by rw [hsl]; exact k2_hasslot (q4 k hk)) rfl rfl hd fun H' e1 e2 e3 => ?_
    rw [hsl] at e1 ⊢
    exact kk H' _ ls _ d0 a1 (Im_put a2 ht hc hk q2 q3 q4 q5 hap e1 e2 e3 w1 w2) (a3.put e2 e3 (Im_base a2 ht)) a4 b1
  | true =>
    rw [if_pos hfi] at hlay
    obtain ⟨hin2, r', hr', hdecl⟩ := hfin rfl
    cases hc.symm.trans hr'
    have hcf : (xm X).cls = cf := by
      obtain ⟨_, _, c', _, _, _, -, -, hf', -, -, -, hown2, -⟩ := Cond.laysFinal_spec hlay
      have e1 : c' = cf := by have := hi.symm.trans hf'; simp at this; exact this.1.symm
      rw [hdecl] at hown2
      rw [← e1]; exact Option.some.inj (F.2.2.2.1.symm.trans hown2)
    have h6 := u_fits hfc hkC hkind (Or.inr hlay) hi (hty k hk) hn hfit
    refine W.putFinK (s := (xs X).setDrawn d0) F.1 F.2.1 F.2.2.2.1 hl hi hst hcf hin2 (by rw [q2]; exact h6) q1 q3 (by rw [hsl]; exact k2_hasslot (q4 k hk)) rfl rfl hd fun H' e1 e2 e3 => ?_
    rw [hsl] at e1 ⊢
    exact kk H' _ ls _ d0 a1 (Im_put a2 ht hc hk q2 q3 q4 q5 hap e1 e2 e3 w1 w2) (a3.put e2 e3 (Im_base a2 ht)) a4 b1
end JH
