/-! THE START: the law's walk, out of what the plain law answers -/
abbrev gz (B : Nat) : MT := (fun _ => 0, fun _ => 0, B, 0)
abbrev hz : CT := (fun _ _ => 0, fun _ _ => 0, fun _ _ => 0, fun _ _ => none)
/-- what is left: the plain law answers 1, within the room -/
def PureOK (E : EC) (B b : Nat) : Prop := ∃ (g' : MT) (h' : CT), pL_law E (gz B) hz b = some (1, g', h') ∧ gN g' ≤ B + 600000 ∧ gU g' ≤ 7302250
set_option maxRecDepth 100000 in
theorem start_of {p : Program} {e : Env} {s : State} {m : MethodId} {below : List Frame} {meth : Method} {c : Code} (l : Launch) {b L : Nat} {xs : Nat → Int32} (hL : L ≤ 3072) (hh : heapFits s = true) (C0 : lw_At p s m meth c b L xs)
    (hp : ∀ (E : EC) (op st bt : Nat → Nat) (aL aS aO : Nat), EOK E b L xs op st bt aL aS aO → EB E s.heap.size → PureOK E s.heap.size b) : W p l e room_1 s m #[Value.ref b] below meth c s.heap [] 0 0 (lw_Z below #[Value.ref b] s) (entryFrame m ([Value.ref b] : List Value).toArray 4) := by
  obtain ⟨hx, hb, hr, hml, hown, hts, hX, hbl, hlocks, hgv⟩ := C0
  have hP : ∀ w ∈ prem, w.before #[Value.ref b] s = true := flat_of_before _ hgv
  obtain ⟨E, op, st, bt, aL, aS, aO, hE, hKF, hKN, hEB⟩ := k_const hh hts hP hX hL
  obtain ⟨g', h', hf, c1, c2⟩ := hp E op st bt aL aS aO hE hEB
  obtain ⟨D, AK, hK⟩ := st_K hts
  refine W.base ?_
  have hd0 := Drawn.sameBut.refl s.drawn lw_cs
  have F : Fx (p, l, e, room_1, s, m, #[Value.ref b], below, meth, c, lw_Z below #[Value.ref b] s, D, AK, s.heap.size, 4, s.heap.size, 0, E) cL_law R_law :=
    ⟨hx, hb, hml, hown, fun w hw => hts w (List.mem_filter.mp hw).1, hK, Nat.le_refl _, hlocks, rfl, hKF, hKN⟩
  have Z : Zw (p, l, e, room_1, s, m, #[Value.ref b], below, meth, c, lw_Z below #[Value.ref b] s, D, AK, s.heap.size, 4, s.heap.size, 0, E) (s.heap.size, D, AK, E) 131 b g' h' :=
    ⟨F, rfl, ⟨rfl, Nat.le_of_ble_eq_true rfl⟩, ⟨hr, rfl, rfl⟩, ⟨rfl, rfl⟩, c1, Nat.le_trans c2 (Nat.le_of_eq (Nat.zero_add _).symm)⟩
  have M : RM (p, l, e, room_1, s, m, #[Value.ref b], below, meth, c, lw_Z below #[Value.ref b] s, D, AK, s.heap.size, 4, s.heap.size, 0, E) (gz s.heap.size) :=
    ⟨Nat.le_add_right _ _, Nat.zero_le _, Nat.le_refl _, Nat.le_refl _⟩
  have k := pL_law_ok Z (Nat.le_refl _) (E := E) rfl M hf
  rw [lg_entry_eq]
  have hle := lv_entry ([.ref b] : List Value) (n := 4) (Nat.le_of_ble_eq_true rfl)
  have hI : Img s.heap.size D AK (gz s.heap.size) hz s.heap := ⟨rfl, fun a => ⟨fun h => absurd rfl h, fun ci h _ => (by cases h), fun t ty h _ => (by change 0 = t + 20 at h; omega)⟩⟩
  have kk := k s.heap [] _ [] s.drawn hd0 hI va_S.rf ⟨_, hle, rfl⟩ rfl
  have e1 : s.heap.size - s.heap.size = 0 := Nat.sub_self _
  simp only [xN, xU, gN, gU, e1] at kk
  exact kk
