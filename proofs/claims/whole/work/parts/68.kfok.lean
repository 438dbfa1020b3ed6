/-! THE START: all constants -/
set_option maxRecDepth 100000 in
set_option maxHeartbeats 4000000 in
theorem k_const {s : State} {args : Array Value} {b L : Nat} {xs : Nat → Int32} (hh : heapFits s = true) (hts : ∀ w ∈ lw_tbl, w.before args s = true) (hP : ∀ w ∈ prem, w.before args s = true) (hX : va_X b L xs s s.heap) (hL : L ≤ 3072) :
    ∃ (E : EC) (op st bt : Nat → Nat) (aL aS aO : Nat), EOK E b L xs op st bt aL aS aO ∧ KF s.heap.size E s ∧ KN E s ∧ EB E s.heap.size := by
  obtain ⟨st, bt, hst⟩ := k_strs hP
  obtain ⟨op, hop⟩ := k_ops hP st (fun i hi => (hst i hi).1)
  obtain ⟨aL, eL, TL⟩ := va_Tof (tm := .static RX12 "LATENCY" "[I") (ty := .int) (N := 4) (f := fun j => .int (latV.getD j 0)) (A := AA s) (by decide) (pm hP lat_ok.1) (va_eqt (pm hP lat_ok.2.1)) (fun j hj => va_eqt (pm hP (lat_ok.2.2 j hj))) (AA_ok s)
  obtain ⟨aS, eS, TS⟩ := va_Tof (tm := .static "VectorPipes$1" "$SwitchMap$VectorPipes$Op" "[I") (ty := .int) (N := 28) (f := fun j => .int (swV.getD j 0)) (A := AA s) (by decide) (pm hP sw_ok.1) (va_eqt (pm hP sw_ok.2.1)) (fun j hj => va_eqt (pm hP (sw_ok.2.2 j hj))) (AA_ok s)
  obtain ⟨aO, eO, TO⟩ := va_Tof (tm := .static RX12 "OPS" "[LVectorPipes$Op;") (ty := .object RX5) (N := 28) (f := fun j => .ref (op j)) (A := AA s) (by decide) (pm hP ops_ok.1) (va_eqt (pm hP ops_ok.2.1)) (fun j hj => va_eqv (pm hP (ops_ok.2.2 j hj)) (hop j hj).1) (AA_ok s)
  have Tb : va_T .int b L (fun j => .int (xs j)) (AA s) s s.heap := by
    obtain ⟨scr, hcb, hof, hkn, hsz, hval⟩ := hX
    exact ⟨scr, hcb, hof, hkn, by omega, by rw [hsz], hval, AA_ok s b (Array.getElem?_eq_some_iff.mp hcb).1⟩
  obtain ⟨fm, hfm⟩ : ∃ r : Option Nat, (Term.static "jdk/internal/util/Preconditions" "SIOOBE_FORMATTER" "Ljava/util/function/BiFunction;").eval args s none [] s = some (va_rf r) := by
    have h := pm hP misc_ok.2.2
    cases hv : (Term.static "jdk/internal/util/Preconditions" "SIOOBE_FORMATTER" "Ljava/util/function/BiFunction;").eval args s none [] s with
    | none => simp [Cond.before, Cond.holds, Cond.value, hv] at h
    | some w =>
      simp only [Cond.before, Cond.holds, Cond.value, hv] at h
      cases w with
      | null => exact ⟨none, rfl⟩
      | ref t => exact ⟨some t, rfl⟩
      | _ => simp at h
  obtain ⟨ops, hops⟩ : ∃ z, z = (List.range 28).map op := ⟨_, rfl⟩
  obtain ⟨sts', hsts⟩ : ∃ z, z = (List.range 45).map st := ⟨_, rfl⟩
  obtain ⟨ar, har⟩ : ∃ z, z = (b, 20, L) :: (aL, 20, 4) :: (aS, 20, 28) :: (aO, 25, 28) :: (List.range 45).map (fun j => (bt j, 23, (stD j).2.2.2.length)) := ⟨_, rfl⟩
  have m_op : ∀ a, a ∈ ops → ∃ k, k < 28 ∧ op k = a := fun a h => by
    rw [hops] at h
    obtain ⟨k, hk, e⟩ := List.mem_map.mp h
    exact ⟨k, List.mem_range.mp hk, e⟩
  have m_st : ∀ a, a ∈ sts' → ∃ k, k < 45 ∧ st k = a := fun a h => by
    rw [hsts] at h
    obtain ⟨k, hk, e⟩ := List.mem_map.mp h
    exact ⟨k, List.mem_range.mp hk, e⟩
  have i_op : ∀ k, k < 28 → op k ∈ ops := fun k hk => by rw [hops]; exact List.mem_map.mpr ⟨k, List.mem_range.mpr hk, rfl⟩
  have i_st : ∀ k, k < 45 → st k ∈ sts' := fun k hk => by rw [hsts]; exact List.mem_map.mpr ⟨k, List.mem_range.mpr hk, rfl⟩
  have b_op : ∀ k, k < 28 → op k < s.heap.size := fun k hk => by
    obtain ⟨c, c1, -⟩ := (hop k hk).2.1
    exact (Array.getElem?_eq_some_iff.mp c1).1
  have b_st : ∀ k, k < 45 → st k < s.heap.size := fun k hk => by
    obtain ⟨c, c1, -⟩ := (hst k hk).2.1
    exact (Array.getElem?_eq_some_iff.mp c1).1
  have b_bt : ∀ k, k < 45 → bt k < s.heap.size := fun k hk => by
    obtain ⟨c, c1, -⟩ := (hst k hk).2.2.2.2
    exact (Array.getElem?_eq_some_iff.mp c1).1
  have b_aL : aL < s.heap.size := by
    obtain ⟨c, c1, -⟩ := TL
    exact (Array.getElem?_eq_some_iff.mp c1).1
  have b_aS : aS < s.heap.size := by
    obtain ⟨c, c1, -⟩ := TS
    exact (Array.getElem?_eq_some_iff.mp c1).1
  have b_aO : aO < s.heap.size := by
    obtain ⟨c, c1, -⟩ := TO
    exact (Array.getElem?_eq_some_iff.mp c1).1
  have vfl : ∀ {v : Value} {b : Nat}, v = .ref b → b < s.heap.size → (vR v).filter (fun b => decide (b < s.heap.size)) = some b := fun {v b} e h => by
    subst e
    simp [vR, h]
  have hok : ∀ q ∈ ar, okA s q := by
    intro q hq
    rw [har] at hq
    simp only [List.mem_cons] at hq
    rcases hq with rfl | rfl | rfl | rfl | hq
    · exact ⟨.int, _, Or.inl ⟨rfl, rfl⟩, by show L < 2 ^ 31; omega, Tb, fun j hj => rfl, fun j hj b e => by cases e⟩
    · exact ⟨.int, _, Or.inl ⟨rfl, rfl⟩, (show (4 : Nat) < 2 ^ 31 from by decide), TL, fun j hj => rfl, fun j hj b e => by cases e⟩
    · exact ⟨.int, _, Or.inl ⟨rfl, rfl⟩, (show (28 : Nat) < 2 ^ 31 from by decide), TS, fun j hj => rfl, fun j hj b e => by cases e⟩
    · exact ⟨.object RX5, _, Or.inr (Or.inr ⟨rfl, rfl⟩), (show (28 : Nat) < 2 ^ 31 from by decide), TO, fun j hj => rfl, fun j hj b e => by cases e; exact b_op j hj⟩
    · obtain ⟨j, hj, rfl⟩ := List.mem_map.mp hq
      have hj := List.mem_range.mp hj
      exact ⟨.byte, _, Or.inr (Or.inl ⟨rfl, rfl⟩), st_len j hj, (hst j hj).2.2.2.2, fun _ _ => rfl, fun j hj b e => by cases e⟩
  have hno : ∀ q ∈ ar, q.1 ∉ ops ∧ q.1 ∉ sts' := by
    intro q hq
    obtain ⟨ty, f, -, -, hT, -⟩ := hok q hq
    refine ⟨fun h => ?_, fun h => ?_⟩
    · obtain ⟨k, hk, e⟩ := m_op _ h
      rw [← e] at hT
      exact mixO hh hT (vk_OFof (hop k hk).1 ((hop k hk).2.2 0 _ rfl) (AA_ok s)) (vk_OFof (hop k hk).1 ((hop k hk).2.2 3 _ rfl) (AA_ok s))
    · obtain ⟨k, hk, e⟩ := m_st _ h
      rw [← e] at hT
      obtain ⟨z1, -, z2, z3, -⟩ := hst k hk
      exact mixO hh hT (vk_OFof z1 z3 (AA_ok s)) (vk_OFof z1 z2 (AA_ok s))
  have h_so : ∀ i, i < 45 → st i ∉ ops := by
    intro i hi h
    obtain ⟨k, hk, e⟩ := m_op _ h
    obtain ⟨c, c1, -, c3, -⟩ := (hop k hk).2.1
    obtain ⟨c', d1, -, d3, -⟩ := (hst i hi).2.1
    rw [e] at c1
    cases c1.symm.trans d1
    exact absurd (fc_inj c3 d3) (by decide)
  obtain ⟨T, hT⟩ : ∃ z, z = tgT ops sts' ar := ⟨_, rfl⟩
  obtain ⟨S, hS⟩ : ∃ z : Nat → Value, z = fun i => if i = 0 then .ref aL else if i = 1 then .ref aO else if i = 2 then .ref aS else if i = 3 then .long (-9223372036854775808) else if i = 4 then .int 1 else if i < 33 then .ref (op (i - 5)) else if i = 33 then va_rf fm else if i < 95 then .ref (st (i - 50)) else .int 0 := ⟨_, rfl⟩
  have T_op : ∀ k, k < 28 → T (op k) = 60 := fun k hk => by rw [hT]; unfold tgT; rw [if_pos (i_op k hk)]
  have T_st : ∀ k, k < 45 → T (st k) = 61 := fun k hk => by rw [hT]; unfold tgT; rw [if_neg (h_so k hk), if_pos (i_st k hk)]
  have T_ar : ∀ q ∈ ar, T q.1 = q.2.1 ∧ tgL ar q.1 = q.2.2 := fun q hq => by rw [hT]; exact tg_ar hok hno hq
  have V_op : ∀ k, k < 28 → ∀ (j : Nat) (q : String × String × String × FieldType), opf[j]? = some q → eV s T (op k) j = opv st k j := fun k hk j q hq => by
    unfold eV
    rw [if_pos (T_op k hk), List.getD_eq_getElem?_getD, hq]
    exact eF_of (hop k hk).1 ((hop k hk).2.2 j q hq)
  have V_st : ∀ i, i < 45 → eV s T (st i) 0 = .ref (bt i) ∧ eV s T (st i) 1 = .int 0 := fun i hi => by
    obtain ⟨z1, -, z2, z3, -⟩ := hst i hi
    unfold eV
    rw [if_neg (by rw [T_st i hi]; decide), if_pos (T_st i hi), if_neg (by rw [T_st i hi]; decide), if_pos (T_st i hi)]
    exact ⟨eF_of (q := ("java/lang/String", "value", "[B", .array .byte)) z1 z2, eF_of (q := ("java/lang/String", "coder", "B", .byte)) z1 z3⟩
  have V_ar : ∀ q ∈ ar, ∀ (ty : FieldType) (f : Nat → Value), va_T ty q.1 q.2.2 f (AA s) s s.heap → ∀ j, j < q.2.2 → eV s T q.1 j = f j := fun q hq ty f hf j hj => by
    have e := (T_ar q hq).1
    have h3 : q.2.1 ≠ 60 ∧ q.2.1 ≠ 61 := by
      obtain ⟨ty, f, g1, -⟩ := hok q hq
      omega
    unfold eV
    rw [if_neg (by rw [e]; exact h3.1), if_neg (by rw [e]; exact h3.2)]
    exact eC_of hf hj
  refine ⟨eE s T (tgL ar) S, op, st, bt, aL, aS, aO, ?_, ?_, ?_, ?_⟩
  · refine ⟨?_, ?_, ?_, ?_, ?_, ?_, ?_⟩
    · rw [hS]
      refine ⟨rfl, rfl, rfl, rfl, rfl, fun k hk => ?_, ⟨fm, rfl⟩, fun i hi => ?_⟩
      · show (if 5 + k = 0 then _ else _) = _
        rw [if_neg (by omega), if_neg (by omega), if_neg (by omega), if_neg (by omega), if_neg (by omega), if_pos (by omega), Nat.add_sub_cancel_left]
      · show (if 50 + i = 0 then _ else _) = _
        rw [if_neg (by omega), if_neg (by omega), if_neg (by omega), if_neg (by omega), if_neg (by omega), if_neg (by omega), if_neg (by omega), if_pos (by omega), Nat.add_sub_cancel_left]
    · intro k hk
      refine ⟨T_op k hk, ?_, ?_, ?_, ?_, ?_⟩
      · show vI (eV s T (op k) 0) = _; rw [V_op k hk 0 _ rfl]; rfl
      · show vI (eV s T (op k) 1) = _; rw [V_op k hk 1 _ rfl]; rfl
      · show vI (eV s T (op k) 2) = _; rw [V_op k hk 2 _ rfl]; rfl
      · exact vfl (V_op k hk 3 _ rfl) (b_st _ (op_cf k hk).1)
      · exact vfl (V_op k hk 4 _ rfl) (b_st _ (op_cf k hk).2)
    · intro i hi
      have hq : (bt i, 23, (stD i).2.2.2.length) ∈ ar := by
        rw [har]
        exact List.mem_cons_of_mem _ (List.mem_cons_of_mem _ (List.mem_cons_of_mem _ (List.mem_cons_of_mem _ (List.mem_map.mpr ⟨i, List.mem_range.mpr hi, rfl⟩))))
      refine ⟨T_st i hi, ?_, ?_, (T_ar _ hq).1, (T_ar _ hq).2, fun j hj => ?_⟩
      · exact vfl (V_st i hi).1 (b_bt i hi)
      · show vI (eV s T (st i) 1) = _; rw [(V_st i hi).2]; rfl
      · show vI (eV s T (bt i) j) = _; rw [V_ar _ hq .byte _ (hst i hi).2.2.2.2 j hj]; rfl
    · have hq : (aL, 20, 4) ∈ ar := by rw [har]; exact List.mem_cons_of_mem _ List.mem_cons_self
      exact ⟨(T_ar _ hq).1, (T_ar _ hq).2, fun j hj => by show vI (eV s T aL j) = _; rw [V_ar _ hq .int _ TL j hj]; rfl⟩
    · have hq : (aS, 20, 28) ∈ ar := by rw [har]; exact List.mem_cons_of_mem _ (List.mem_cons_of_mem _ List.mem_cons_self)
      exact ⟨(T_ar _ hq).1, (T_ar _ hq).2, fun j hj => by show vI (eV s T aS j) = _; rw [V_ar _ hq .int _ TS j hj]; rfl⟩
    · have hq : (aO, 25, 28) ∈ ar := by rw [har]; exact List.mem_cons_of_mem _ (List.mem_cons_of_mem _ (List.mem_cons_of_mem _ List.mem_cons_self))
      exact ⟨(T_ar _ hq).1, (T_ar _ hq).2, fun j hj => vfl (V_ar _ hq (.object RX5) _ TO j hj) (b_op j hj)⟩
    · have hq : (b, 20, L) ∈ ar := by rw [har]; exact List.mem_cons_self
      exact ⟨(T_ar _ hq).1, (T_ar _ hq).2, fun j hj => by show vI (eV s T b j) = _; rw [V_ar _ hq .int _ Tb j hj]; rfl⟩
  · refine ⟨fun i q hq => ?_, fun a ha => ?_, fun a ha => ?_, fun a t ty ha hk => ?_⟩
    · have hi : i < 34 := (List.getElem?_eq_some_iff.mp hq).1
      obtain ⟨w1, w2⟩ := sts_ok i hi
      have e : sts.getD i ("", "", "") = q := by rw [List.getD_eq_getElem?_getD, hq]; rfl
      rw [e] at w1 w2
      refine va_Zof (hts _ (List.mem_of_getElem? w1)) (hts _ (List.mem_of_getElem? w2)) ?_ (AA_ok s)
      show (Term.static q.1 q.2.1 q.2.2).eval args s none [] s = some (S i)
      rw [hS]
      by_cases h5 : i < 5
      · match i, h5, hq with
        | 0, _, hq => obtain rfl := Option.some.inj hq; exact eL
        | 1, _, hq => obtain rfl := Option.some.inj hq; exact eO
        | 2, _, hq => obtain rfl := Option.some.inj hq; exact eS
        | 3, _, hq => obtain rfl := Option.some.inj hq; exact va_eql (pm hP misc_ok.1)
        | 4, _, hq => obtain rfl := Option.some.inj hq; exact va_eqi (pm hP misc_ok.2.1)
      · by_cases h33 : i = 33
        · subst h33; obtain rfl := Option.some.inj hq; exact hfm
        · have e2 : q = (RX5, opn.getD (i - 5) "", "LVectorPipes$Op;") := by
            have key : ∀ k, k < 28 → sts[5 + k]? = some (RX5, opn.getD k "", "LVectorPipes$Op;") := by decide +kernel
            have := key (i - 5) (by omega)
            rw [show 5 + (i - 5) = i by omega, hq] at this
            exact Option.some.inj this
          subst e2
          show _ = some (if i = 0 then _ else _)
          rw [if_neg (by omega), if_neg (by omega), if_neg (by omega), if_neg (by omega), if_neg (by omega), if_pos (by omega)]
          exact (hop (i - 5) (by omega)).1
    · have ha : T a = 60 := ha
      have hin : a ∈ ops := by
        rcases tg_inv (ops := ops) (sts := sts') hok a with h | h | h | h
        · exact h.2
        · rw [← hT, ha] at h; exact absurd h.1 (by decide)
        · rw [← hT, ha] at h; exact absurd h (by decide)
        · rw [← hT, ha] at h; exact absurd rfl h.1.1
      obtain ⟨k, hk, rfl⟩ := m_op a hin
      refine ⟨(hop k hk).2.1, fun j q hq => ?_⟩
      have h := vk_OFof (A := AA s) (hop k hk).1 ((hop k hk).2.2 j q hq) (AA_ok s)
      have e : vk q.2.2.2 (eE s T (tgL ar) S).2.1 (op k) j = opv st k j := by
        have hv := V_op k hk j q hq
        match j, hq with
        | 0, hq => cases hq; show Value.int (vI (eV s T (op k) 0)) = _; rw [hv]; rfl
        | 1, hq => cases hq; show Value.int (vI (eV s T (op k) 1)) = _; rw [hv]; rfl
        | 2, hq => cases hq; show Value.int (vI (eV s T (op k) 2)) = _; rw [hv]; rfl
        | 3, hq => cases hq; exact congrArg va_rf (vfl hv (b_st _ (op_cf k hk).1))
        | 4, hq => cases hq; exact congrArg va_rf (vfl hv (b_st _ (op_cf k hk).2))
        | j + 5, hq => cases hq
      rw [e]
      exact h
    · have ha : T a = 61 := ha
      have hin : a ∈ sts' := by
        rcases tg_inv (ops := ops) (sts := sts') hok a with h | h | h | h
        · rw [← hT, ha] at h; exact absurd h.1 (by decide)
        · exact h.2
        · rw [← hT, ha] at h; exact absurd h (by decide)
        · rw [← hT, ha] at h; exact absurd rfl h.1.2
      obtain ⟨i, hi, rfl⟩ := m_st a hin
      obtain ⟨z1, z4, z2, z3, -⟩ := hst i hi
      refine ⟨z4, fun j q hq => ?_⟩
      match j, hq with
      | 0, hq =>
        cases hq
        have ev : vk (.array .byte) (eE s T (tgL ar) S).2.1 (st i) 0 = .ref (bt i) := congrArg va_rf (vfl (V_st i hi).1 (b_bt i hi))
        rw [ev]
        exact vk_OFof z1 z2 (AA_ok s)
      | 1, hq =>
        cases hq
        show va_OF _ _ _ (Value.int (vI (eV s T (st i) 1))) _ _ _ _
        rw [(V_st i hi).2]
        exact vk_OFof z1 z3 (AA_ok s)
      | j + 2, hq => cases hq
    · have ha : T a = t + 20 := ha
      have ht : t < 6 := (List.getElem?_eq_some_iff.mp hk).1
      rcases tg_inv (ops := ops) (sts := sts') hok a with h | h | h | ⟨-, q, hq, e1, e2, e3⟩
      · rw [← hT, ha] at h; omega
      · rw [← hT, ha] at h; omega
      · rw [← hT, ha] at h; omega
      · rw [← hT, ha] at e2
        subst e1
        obtain ⟨ty', f, g1, g2, g3, g4, g5⟩ := hok q hq
        have ety : ty = ty' := by
          rcases g1 with ⟨g, rfl⟩ | ⟨g, rfl⟩ | ⟨g, rfl⟩
          · rw [show t = 0 by omega] at hk; cases hk; rfl
          · rw [show t = 3 by omega] at hk; cases hk; rfl
          · rw [show t = 5 by omega] at hk; cases hk; rfl
        subst ety
        show va_T ty q.1 (tgL ar q.1) _ _ _ _
        rw [e3]
        refine T_congr g3 fun j hj => ?_
        have hv := V_ar q hq ty f g3 j hj
        rw [← g4 j hj]
        rcases g1 with ⟨g, rfl⟩ | ⟨g, rfl⟩ | ⟨g, rfl⟩
        · show Value.int (vI (f j)) = Value.int (vI (eV s T q.1 j)); rw [hv]
        · show Value.int (vI (f j)) = Value.int (vI (eV s T q.1 j)); rw [hv]
        · show va_rf (vR (f j)) = va_rf ((vR (eV s T q.1 j)).filter (fun b => decide (b < s.heap.size)))
          rw [hv]
          cases hfj : f j with
          | ref b => rw [vfl rfl (g5 j hj b hfj)]; rfl
          | _ => rfl
  · obtain ⟨w1, w2, w3, w4, w5, w6, w7, w8, w9⟩ := ar_ok
    obtain ⟨n1, n2, n3, n4, n5⟩ := ne_ok
    refine ⟨fun i q hq => ?_, ⟨va_AO.of (hts _ (List.mem_of_getElem? w9)), va_AO.of (hts _ (List.mem_of_getElem? w8)), va_AO.of (hts _ (List.mem_of_getElem? w6)), va_AO.of (hts _ (List.mem_of_getElem? w7))⟩, va_Nw.of rfl (hts _ (List.mem_of_getElem? n1)), va_Nw.of rfl (hts _ (List.mem_of_getElem? n2)), va_Nw.of rfl (hts _ (List.mem_of_getElem? n3)), va_Nw.of rfl (hts _ (List.mem_of_getElem? n4)), va_Nw.of rfl (hts _ (List.mem_of_getElem? n5))⟩
    have hi : i < 5 := (List.getElem?_eq_some_iff.mp hq).1
    obtain ⟨w1, w2, w3⟩ := sr_ok i hi
    have e : sld.getD i ("", 0, "") = q := by rw [List.getD_eq_getElem?_getD, hq]; rfl
    rw [e] at w1 w2 w3
    have hs := (hst i (by omega)).1
    unfold stT at hs
    rw [w2, w3] at hs
    refine ⟨st i, ?_, vk_R.of (hts _ (List.mem_of_getElem? w1)) hs⟩
    show S (50 + i) = _
    rw [hS]
    show (if 50 + i = 0 then _ else _) = _
    rw [if_neg (by omega), if_neg (by omega), if_neg (by omega), if_neg (by omega), if_neg (by omega), if_neg (by omega), if_neg (by omega), if_pos (by omega), Nat.add_sub_cancel_left]
  · refine ⟨fun i b h33 hb => ?_, fun a k b hb => ?_⟩
    · have hb : S i = .ref b := hb
      rw [hS] at hb
      simp only at hb
      split at hb
      · cases hb; exact b_aL
      split at hb
      · cases hb; exact b_aO
      split at hb
      · cases hb; exact b_aS
      split at hb
      · cases hb
      split at hb
      · cases hb
      split at hb
      · cases hb; exact b_op _ (by omega)
      try rw [if_neg h33] at hb
      split at hb
      · cases hb; exact b_st _ (by omega)
      · cases hb
    · have hb : (vR (eV s T a k)).filter (fun b => decide (b < s.heap.size)) = some b := hb
      have := (Option.filter_eq_some_iff.mp hb).2
      simpa using this
