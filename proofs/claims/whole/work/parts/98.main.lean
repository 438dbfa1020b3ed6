/-! THE PURE PART's end -/
theorem pure_main {E : EC} {B b L : Nat} {xs : Nat → Int32} {op st bt : Nat → Nat} {aL aS aO : Nat} (hL : L ≤ 3072) (hE : EOK E b L xs op st bt aL aS aO) : PureOK E B b := sorry
