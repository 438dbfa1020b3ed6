/-! what stands between two INSTRUCTIONS, in both -/
section BST
variable {B b L : Nat} {E : EC} {xs : Nat → Int32} {op st bt : Nat → Nat} {aL aS aO : Nat} {g g' g0 gr : MT} {h h' h0 h1 h2 hr hr' hr0 : CT} {tp : Nat → Int32} {n p p1 pg ci fi j i m k0 s : Nat} {p2 : Int32} {cur opn so : Option Nat} {kd : Nat → Nat} {vv : Nat → Nat → Int32} {row : Nat → Int32}
/-- the most that a field may be -/
def bdM (k f : Nat) : Nat := if f = 1 ∨ f = 2 ∨ f = 3 then 5 else if f = 4 then 3 else if f = 5 then 63 else if f = 6 then 16 else if f = 7 then (if k = 0 then 16 else 200) else if f = 8 then (if 7 ≤ k ∧ k ≤ 16 then 1 else 0) else 0
def VQ (k : Nat) (v : Nat → Int32) : Prop := ∀ f, 1 ≤ f → f ≤ 9 → ∃ x, v f = nI x ∧ x ≤ bdM k f
def bdC (c : Int32) : Nat := if c = 97 ∨ c = 98 ∨ c = 100 then 5 else if c = 115 then 3 else if c = 112 then 63 else if c = 110 then 200 else 16
theorem it_bd (sn : tS tp n p < n) {c : Int32} (hc : okc c) (ct : ¬ (c = 42 ∨ c = 59 ∨ c = 64 ∨ c = 102)) (f0 : itF tp n p c = 0) : ∃ x, itV tp n p c = nI x ∧ x ≤ bdC c := by
  have cs : (c = 97 ∨ c = 98 ∨ c = 100) ∨ c = 115 ∨ (c = 112 ∨ c = 121 ∨ c = 110 ∨ c = 118) := by
    rcases hc with w | w | w | w | w | w | w | w | w | w | w | w <;> simp [w] at ct ⊢
  rcases cs with w | rfl | w
  · obtain ⟨e1, e2⟩ := itF_row (tp := tp) (n := n) (p := p) w
    rw [e1] at f0
    have ne : ltV tp n p 118 6 ≠ -1 := fun e => by rw [if_pos e] at f0; exact absurd f0 (by decide)
    obtain ⟨v, hv, ev⟩ := let_ex tp n p sn 118 6 (by decide)
    have ev' : ltV tp n p 118 6 = v := ev
    rw [e2, ev']
    rw [ev'] at ne
    obtain ⟨x, x1, x2⟩ := hv.resolve_left ne
    refine ⟨x, x2, ?_⟩
    unfold bdC
    rw [if_pos w]; omega
  · have e1 : itF tp n p 115 = (if ltV tp n p 115 4 = -1 then 2 else 0) := rfl
    have e2 : itV tp n p 115 = ltV tp n p 115 4 := rfl
    rw [e1] at f0
    have ne : ltV tp n p 115 4 ≠ -1 := fun e => by rw [if_pos e] at f0; exact absurd f0 (by decide)
    obtain ⟨v, hv, ev⟩ := let_ex tp n p sn 115 4 (by decide)
    have ev' : ltV tp n p 115 4 = v := ev
    rw [e2, ev']
    rw [ev'] at ne
    obtain ⟨x, x1, x2⟩ := hv.resolve_left ne
    exact ⟨x, x2, by show x ≤ 3; omega⟩
  · obtain ⟨e1, e2⟩ := itF_num (tp := tp) (n := n) (p := p) w
    rw [e1] at f0
    have hk : tK tp n p = 2 := Classical.byContradiction fun e => by rw [if_neg e] at f0; exact absurd f0 (by decide)
    rw [if_pos hk] at f0
    obtain ⟨m4, dg⟩ := num_digs hk sn
    obtain ⟨v, v1, v2⟩ := nm_val (tp := tp) (s := tS tp n p) _ m4 dg
    have p4 : 10 ^ (tE tp n p - tS tp n p) ≤ 10 ^ 4 := Nat.pow_le_pow_right (by decide) m4
    rw [v2] at f0 e2
    refine ⟨v, e2, ?_⟩
    have le : nI v ≤ pX6_mostFor c := Classical.byContradiction fun e => by rw [if_neg e] at f0; exact absurd f0 (by decide)
    refine Nat.not_lt.mp fun lt' => ?_
    have : ∃ y, y < v ∧ pX6_mostFor c = nI y := by
      rcases w with rfl | rfl | rfl | rfl
      · exact ⟨63, lt', rfl⟩
      · exact ⟨16, lt', rfl⟩
      · exact ⟨200, lt', rfl⟩
      · exact ⟨16, lt', rfl⟩
    obtain ⟨y, y1, y2⟩ := this
    rw [y2] at le
    exact nI_ge y1 (by omega) le
theorem frP_ok1 : ∀ k, k < 28 → (frP k ++ [59]).all (fun c => decide (okc c ∨ c = 109)) = true := by decide +kernel
theorem frP_ok2 : ∀ k, k < 28 → (frP k ++ [59]).all (fun c => decide (c = 109 → bdM k 8 = 1) && decide (c ≠ 109 → (c = 42 ∨ c = 59 ∨ c = 64 ∨ c = 102) ∨ bdC c ≤ bdM k (itK c))) = true := by decide +kernel
theorem frP_ok (k : Nat) (hk : k < 28) : (∀ c ∈ frP k ++ [59], okc c ∨ c = 109) ∧ (∀ c ∈ frP k ++ [59], (c = 109 → bdM k 8 = 1) ∧ (c ≠ 109 → (c = 42 ∨ c = 59 ∨ c = 64 ∨ c = 102) ∨ bdC c ≤ bdM k (itK c))) := ⟨fun c hc => of_decide_eq_true (List.all_eq_true.mp (frP_ok1 k hk) c hc), fun c hc => by
  have h := Bool.and_eq_true_iff.mp (List.all_eq_true.mp (frP_ok2 k hk) c hc)
  exact ⟨of_decide_eq_true h.1, of_decide_eq_true h.2⟩⟩
theorem frP_m : ∀ k, k < 28 → ∀ j, j < 8 → (stB (opD k).2.2.1).getD j 0 = 109 → j < (stB (opD k).2.2.1).length → j + 2 = (stB (opD k).2.2.1).length ∧ (stB (opD k).2.2.1).getD (j + 1) 0 = 59 := by decide +kernel
theorem VQ.upd {k f x : Nat} {v : Nat → Int32} (V : VQ k v) (hx : x ≤ bdM k f) : VQ k (ud v f (nI x)) := fun f' a c => by
  by_cases e : f' = f
  · exact ⟨x, by rw [e, ud_s], by rw [e]; exact hx⟩
  · rw [ud_n e]; exact V f' a c
theorem VQ.rds {k : Nat} (hk : k < 28) : ∀ (cs : List Int32) (q : RQ), (∀ c ∈ cs, c ∈ frP k ++ [59]) → VQ k q.2.2 → VQ k (rdl tp n q cs).2.2 := by
  intro cs
  induction cs with
  | nil => intro q _ V; exact V
  | cons c cs ih =>
    intro q hc V
    refine ih (stp tp n q c) (fun d hd => hc d (List.mem_cons_of_mem _ hd)) ?_
    have hm := hc c (List.mem_cons_self ..)
    obtain ⟨ok, bd'⟩ := frP_ok k hk
    have ok1 := ok c hm
    by_cases q0 : q.1 = 0
    · by_cases c9 : c = 109
      · rw [c9, stp_m q0]
        have b8 : bdM k 8 = 1 := (bd' c hm).1 c9
        by_cases t : isT tp n q.2.1 (stB 1)
        · rw [if_pos t]
          exact V.upd (f := 8) (x := 1) (by omega)
        · rw [if_neg t]; exact V
      · rw [stp_0 q0 c9]
        by_cases f0 : fF tp n q.2.1 c = 0
        · rw [if_pos f0]
          by_cases ct : c = 42 ∨ c = 59 ∨ c = 64 ∨ c = 102
          · rw [if_pos ct]; exact V
          · rw [if_neg ct]
            have sn := fF_in f0
            have i0 : itF tp n q.2.1 c = 0 := by
              unfold fF at f0
              rw [if_pos sn] at f0
              by_cases w : tK tp n q.2.1 = 0
              · rw [if_pos w] at f0; exact absurd f0 (by decide)
              · rw [if_neg w] at f0; exact f0
            obtain ⟨x, x1, x2⟩ := it_bd sn (ok1.resolve_right c9) ct i0
            rw [x1]
            refine V.upd ?_
            exact Nat.le_trans x2 (((bd' c hm).2 c9).resolve_left ct)
        · rw [if_neg f0]; exact V
    · rw [stp_f q0]; exact V
end BST
