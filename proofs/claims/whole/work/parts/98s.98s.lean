/-! the class reads all of a form -/
section FRM
variable {B b L : Nat} {E : EC} {xs : Nat → Int32} {op st bt : Nat → Nat} {aL aS aO : Nat} {g : MT} {h h' h1 h2 : CT} {tp : Nat → Int32} {n p p1 pg ci fi j i : Nat} {p2 : Int32} {cur opn : Option Nat}
/-- where a form's reading stands: the fault (0 for none), the place, the fields -/
abbrev RQ : Type := Int32 × Nat × (Nat → Int32)
abbrev okc (c : Int32) : Prop := c = 42 ∨ c = 59 ∨ c = 64 ∨ c = 102 ∨ c = 97 ∨ c = 98 ∨ c = 100 ∨ c = 115 ∨ c = 112 ∨ c = 121 ∨ c = 110 ∨ c = 118
def stp (tp : Nat → Int32) (n : Nat) (q : RQ) (c : Int32) : RQ :=
  if q.1 = 0 then
    (if c = 109 then (if isT tp n q.2.1 (stB 1) then (0, tE tp n q.2.1, ud q.2.2 8 1) else q)
    else if fF tp n q.2.1 c = 0 then (0, tE tp n q.2.1, if c = 42 ∨ c = 59 ∨ c = 64 ∨ c = 102 then q.2.2 else ud q.2.2 (itK c) (itV tp n q.2.1 c)) else (fF tp n q.2.1 c, tS tp n q.2.1, q.2.2))
  else q
def rdl (tp : Nat → Int32) (n : Nat) (q : RQ) (cs : List Int32) : RQ := cs.foldl (stp tp n) q
theorem stp_f {q : RQ} (hq : q.1 ≠ 0) (c : Int32) : stp tp n q c = q := if_neg hq
theorem rdl_f {q : RQ} (hq : q.1 ≠ 0) : ∀ cs, rdl tp n q cs = q := by
  intro cs
  induction cs with
  | nil => rfl
  | cons c cs ih =>
    show rdl tp n (stp tp n q c) cs = q
    rw [stp_f hq, ih]
theorem stp_0 {q : RQ} (hq : q.1 = 0) {c : Int32} (hc : c ≠ 109) : stp tp n q c = if fF tp n q.2.1 c = 0 then (0, tE tp n q.2.1, if c = 42 ∨ c = 59 ∨ c = 64 ∨ c = 102 then q.2.2 else ud q.2.2 (itK c) (itV tp n q.2.1 c)) else (fF tp n q.2.1 c, tS tp n q.2.1, q.2.2) := by
  unfold stp
  rw [if_pos hq, if_neg hc]
theorem stp_m {q : RQ} (hq : q.1 = 0) : stp tp n q 109 = if isT tp n q.2.1 (stB 1) then (0, tE tp n q.2.1, ud q.2.2 8 1) else q := by
  unfold stp
  rw [if_pos hq, if_pos rfl]
theorem fF_in {c : Int32} (h0 : fF tp n p c = 0) : tS tp n p < n := Classical.byContradiction fun sn => by
  unfold fF at h0
  rw [if_neg sn] at h0
  exact absurd h0 (by decide)
theorem PL.step {R : Option Nat × MT × CT} (hi : i ≤ 900) (s : ∀ f R, pX6_parse_l64 E (B + 11) p1 p2 f (nI (i + 1)) g h' = some R → gN g ≤ gN R.2.1 ∧ gU g ≤ gU R.2.1 → pX6_parse_l64 E (B + 11) p1 p2 (f + 1) (nI i) g h = some R) (y : PL E B p1 p2 (i + 1) g h' R) : PL E B p1 p2 i g h R := by
  have fu : 1000 < FUEL := by decide
  refine ⟨?_, y.2⟩
  have := s (FUEL - (i + 1)) R y.1 y.2
  rwa [show FUEL - (i + 1) + 1 = FUEL - i by omega] at this
theorem PL.bad (hi : i ≤ 900) (s : ∀ f, pX6_parse_l64 E (B + 11) p1 p2 (f + 2) (nI i) g h = some (none, g, h')) : PL E B p1 p2 i g h (none, g, h') := by
  have fu : 1000 < FUEL := by decide
  refine ⟨?_, Nat.le_refl _, Nat.le_refl _⟩
  have := s (FUEL - i - 2)
  rwa [show FUEL - i - 2 + 2 = FUEL - i by omega] at this
theorem drop_c {l cs : List Int32} {c : Int32} (e : l.drop j = c :: cs) : j < l.length ∧ l.getD j 0 = c ∧ l.drop (j + 1) = cs ∧ l.length = j + 1 + cs.length := by
  have h1 : (l.drop j).length = cs.length + 1 := by rw [e]; rfl
  rw [List.length_drop] at h1
  have h2 : (l.drop j)[0]? = some c := by rw [e]; rfl
  rw [List.getElem?_drop, Nat.add_zero] at h2
  refine ⟨by omega, by rw [List.getD_eq_getElem?_getD, h2]; rfl, ?_, by omega⟩
  rw [← List.tail_drop, e]; rfl
/-- the class reads a form on from its place j -/
theorem k_form (K : EOK E b L xs op st bt aL aS aO) (tc : gT g ci = 2) (hc1 : ci ≠ B + 11) (hc2 : ci ≠ B + 10) (mk : ∀ j, (stB fi).getD j 0 = 109 → j < (stB fi).length → j + 2 = (stB fi).length ∧ (stB fi).getD (j + 1) 0 = 59) :
    ∀ (cs : List Int32) (j i p : Nat) (h : CT), KL B st g h tp n p pg (some ci) fi j opn → (stB fi).drop j = cs → (∀ c ∈ cs, okc c ∨ c = 109) → j ≤ (stB fi).length → i ≤ p →
    ∃ h', WF1 B ci h h' ∧ (((rdl tp n (0, p, hI h ci) cs).1 = 0 ∧ KL B st g h' tp n (rdl tp n (0, p, hI h ci) cs).2.1 pg (some ci) fi (stB fi).length opn ∧ hI h' ci = (rdl tp n (0, p, hI h ci) cs).2.2 ∧ ∃ i', i ≤ i' ∧ i' ≤ (rdl tp n (0, p, hI h ci) cs).2.1 ∧ ∀ R, PL E B p1 p2 i' g h' R → PL E B p1 p2 i g h R)
      ∨ ((rdl tp n (0, p, hI h ci) cs).1 ≠ 0 ∧ hI h' (B + 11) 0 = (rdl tp n (0, p, hI h ci) cs).1 ∧ hI h' (B + 11) 1 = nI (rdl tp n (0, p, hI h ci) cs).2.1 ∧ PL E B p1 p2 i g h (none, g, h'))) := by
  intro cs
  induction cs with
  | nil =>
    intro j i p h X ed _ hj hi
    have : j = (stB fi).length := by
      have := congrArg List.length ed
      rw [List.length_drop] at this
      simp only [List.length_nil] at this
      omega
    rw [this] at X
    exact ⟨h, WF1.rf B ci h, Or.inl ⟨rfl, X, rfl, i, Nat.le_refl _, hi, fun R y => y⟩⟩
  | cons c cs ih =>
    intro j i p h X ed ok hj hi
    have hp : p ≤ n := X.2.1
    have n900 := X.1.2.2.2.2.2.2
    obtain ⟨jl, ec, ed1, el⟩ := drop_c ed
    have tl := tE_le (tp := tp) hp
    have sl := tS_le (tp := tp) hp
    have ok1 : ∀ c ∈ cs, okc c ∨ c = 109 := fun d hd => ok d (List.mem_cons_of_mem _ hd)
    have go : ∀ h1 v, v = hI h1 ci → WF1 B ci h h1 → KL B st g h1 tp n (tE tp n p) pg (some ci) fi (j + 1) opn → i + 1 ≤ tE tp n p → (∀ f R, pX6_parse_l64 E (B + 11) p1 p2 f (nI (i + 1)) g h1 = some R → gN g ≤ gN R.2.1 ∧ gU g ≤ gU R.2.1 → pX6_parse_l64 E (B + 11) p1 p2 (f + 1) (nI i) g h = some R) →
        ∃ h', WF1 B ci h h' ∧ (((rdl tp n (0, tE tp n p, v) cs).1 = 0 ∧ KL B st g h' tp n (rdl tp n (0, tE tp n p, v) cs).2.1 pg (some ci) fi (stB fi).length opn ∧ hI h' ci = (rdl tp n (0, tE tp n p, v) cs).2.2 ∧ ∃ i', i ≤ i' ∧ i' ≤ (rdl tp n (0, tE tp n p, v) cs).2.1 ∧ ∀ R, PL E B p1 p2 i' g h' R → PL E B p1 p2 i g h R)
          ∨ ((rdl tp n (0, tE tp n p, v) cs).1 ≠ 0 ∧ hI h' (B + 11) 0 = (rdl tp n (0, tE tp n p, v) cs).1 ∧ hI h' (B + 11) 1 = nI (rdl tp n (0, tE tp n p, v) cs).2.1 ∧ PL E B p1 p2 i g h (none, g, h'))) := fun h1 v ev x1 X1 hi1 s => by
      subst ev
      obtain ⟨h', x2, r⟩ := ih (j + 1) (i + 1) (tE tp n p) h1 X1 ed1 ok1 (by omega) hi1
      refine ⟨h', x1.tr x2, ?_⟩
      rcases r with ⟨r1, r2, r3, i', r4, r5, r6⟩ | ⟨r1, r2, r3, r4⟩
      · exact Or.inl ⟨r1, r2, r3, i', by omega, r5, fun R y => PL.step (by omega) s (r6 R y)⟩
      · exact Or.inr ⟨r1, r2, r3, PL.step (by omega) s r4⟩
    show ∃ h', WF1 B ci h h' ∧ (((rdl tp n (stp tp n (0, p, hI h ci) c) cs).1 = 0 ∧ KL B st g h' tp n (rdl tp n (stp tp n (0, p, hI h ci) c) cs).2.1 pg (some ci) fi (stB fi).length opn ∧ hI h' ci = (rdl tp n (stp tp n (0, p, hI h ci) c) cs).2.2 ∧ ∃ i', i ≤ i' ∧ i' ≤ (rdl tp n (stp tp n (0, p, hI h ci) c) cs).2.1 ∧ ∀ R, PL E B p1 p2 i' g h' R → PL E B p1 p2 i g h R)
      ∨ ((rdl tp n (stp tp n (0, p, hI h ci) c) cs).1 ≠ 0 ∧ hI h' (B + 11) 0 = (rdl tp n (stp tp n (0, p, hI h ci) c) cs).1 ∧ hI h' (B + 11) 1 = nI (rdl tp n (stp tp n (0, p, hI h ci) c) cs).2.1 ∧ PL E B p1 p2 i g h (none, g, h')))
    by_cases c9 : c = 109
    · subst c9
      obtain ⟨m2, m3⟩ := mk j ec jl
      have ecs : cs = [59] := by
        have l1 : cs.length = 1 := by omega
        match cs, l1 with
        | [d], _ =>
          obtain ⟨-, w, -, -⟩ := drop_c ed1
          rw [← w, m3]
      obtain ⟨h1, x1, r⟩ := k_mas (E := E) (p1 := p1) (p2 := p2) (i := i) K X tc hc1 hc2 ec m3 m2 (by omega)
      rw [stp_m rfl]
      rcases r with ⟨t, X1, ev, s⟩ | ⟨t, f0, X1, ev, s⟩ | ⟨t, f0, e0, e1, s⟩
      · have sn := (isT_in (by decide) t).1
        rw [if_pos t]
        exact go h1 _ ev.symm x1 X1 (by have := tl.2.2 sn; omega) s
      · have sn := fF_in f0
        rw [if_neg t, ecs]
        have er : rdl tp n (0, p, hI h ci) [59] = (0, tE tp n p, hI h ci) := by
          show stp tp n (0, p, hI h ci) 59 = _
          rw [stp_0 rfl (by decide), if_pos f0, if_pos (by decide)]
        rw [er]
        rw [m2] at X1
        exact ⟨h1, x1, Or.inl ⟨rfl, X1, ev, i + 1, by omega, by have := tl.2.2 sn; show i + 1 ≤ tE tp n p; omega, fun R y => PL.step (by omega) s y⟩⟩
      · rw [if_neg t, ecs]
        have er : rdl tp n (0, p, hI h ci) [59] = (fF tp n p 59, tS tp n p, hI h ci) := by
          show stp tp n (0, p, hI h ci) 59 = _
          rw [stp_0 rfl (by decide), if_neg f0]
        rw [er]
        exact ⟨h1, x1, Or.inr ⟨f0, e0, e1, PL.bad (by omega) s⟩⟩
    · have hc := (ok c (List.mem_cons_self ..)).resolve_right c9
      obtain ⟨h1, x1, r⟩ := k_turn (E := E) (p1 := p1) (p2 := p2) (i := i) K X tc hc1 hc2 jl ec hc (by omega)
      rw [stp_0 rfl c9]
      rcases r with ⟨f0, X1, ev, s⟩ | ⟨f0, e0, e1, s⟩
      · have sn := fF_in f0
        rw [if_pos f0]
        exact go h1 _ ev.symm x1 X1 (by have := tl.2.2 sn; omega) s
      · rw [if_neg f0, rdl_f f0]
        exact ⟨h1, x1, Or.inr ⟨f0, e0, e1, PL.bad (by omega) s⟩⟩
end FRM
